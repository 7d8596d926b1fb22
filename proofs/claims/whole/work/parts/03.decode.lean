theorem dX3_init_0 : decode cX3_init 0 = .ok (.aload_n 0, 1) := by decide +kernel
theorem dX3_init_1 : decode cX3_init 1 = .ok (.invokespecial 3, 3) := by decide +kernel
theorem dX3_init_4 : decode cX3_init 4 = .ok (.aload_n 0, 1) := by decide +kernel
theorem dX3_init_5 : decode cX3_init 5 = .ok (.iload_n 1, 1) := by decide +kernel
theorem dX3_init_6 : decode cX3_init 6 = .ok (.iconst 0, 1) := by decide +kernel
theorem dX3_init_7 : decode cX3_init 7 = .ok (.invokestatic 9, 3) := by decide +kernel
theorem dX3_init_10 : decode cX3_init 10 = .ok (.newarray .int, 2) := by decide +kernel
theorem dX3_init_12 : decode cX3_init 12 = .ok (.putfield 15, 3) := by decide +kernel
theorem dX3_init_15 : decode cX3_init 15 = .ok (.return_, 1) := by decide +kernel
theorem dX8_init_0 : decode cX8_init 0 = .ok (.aload_n 0, 1) := by decide +kernel
theorem dX8_init_1 : decode cX8_init 1 = .ok (.invokespecial 3, 3) := by decide +kernel
theorem dX8_init_4 : decode cX8_init 4 = .ok (.aload_n 0, 1) := by decide +kernel
theorem dX8_init_5 : decode cX8_init 5 = .ok (.iconst 2, 1) := by decide +kernel
theorem dX8_init_6 : decode cX8_init 6 = .ok (.putfield 9, 3) := by decide +kernel
theorem dX8_init_9 : decode cX8_init 9 = .ok (.aload_n 0, 1) := by decide +kernel
theorem dX8_init_10 : decode cX8_init 10 = .ok (.iconst 5, 1) := by decide +kernel
theorem dX8_init_11 : decode cX8_init 11 = .ok (.newarray .int, 2) := by decide +kernel
theorem dX8_init_13 : decode cX8_init 13 = .ok (.putfield 15, 3) := by decide +kernel
theorem dX8_init_16 : decode cX8_init 16 = .ok (.aload_n 0, 1) := by decide +kernel
theorem dX8_init_17 : decode cX8_init 17 = .ok (.iconst 5, 1) := by decide +kernel
theorem dX8_init_18 : decode cX8_init 18 = .ok (.newarray .int, 2) := by decide +kernel
theorem dX8_init_20 : decode cX8_init 20 = .ok (.putfield 19, 3) := by decide +kernel
theorem dX8_init_23 : decode cX8_init 23 = .ok (.aload_n 0, 1) := by decide +kernel
theorem dX8_init_24 : decode cX8_init 24 = .ok (.iconst 5, 1) := by decide +kernel
theorem dX8_init_25 : decode cX8_init 25 = .ok (.newarray .int, 2) := by decide +kernel
theorem dX8_init_27 : decode cX8_init 27 = .ok (.putfield 22, 3) := by decide +kernel
theorem dX8_init_30 : decode cX8_init 30 = .ok (.aload_n 0, 1) := by decide +kernel
theorem dX8_init_31 : decode cX8_init 31 = .ok (.iconst 5, 1) := by decide +kernel
theorem dX8_init_32 : decode cX8_init 32 = .ok (.newarray .int, 2) := by decide +kernel
theorem dX8_init_34 : decode cX8_init 34 = .ok (.putfield 25, 3) := by decide +kernel
theorem dX8_init_37 : decode cX8_init 37 = .ok (.aload_n 0, 1) := by decide +kernel
theorem dX8_init_38 : decode cX8_init 38 = .ok (.bipush 15, 2) := by decide +kernel
theorem dX8_init_40 : decode cX8_init 40 = .ok (.newarray .int, 2) := by decide +kernel
theorem dX8_init_42 : decode cX8_init 42 = .ok (.putfield 28, 3) := by decide +kernel
theorem dX8_init_45 : decode cX8_init 45 = .ok (.aload_n 0, 1) := by decide +kernel
theorem dX8_init_46 : decode cX8_init 46 = .ok (.bipush 15, 2) := by decide +kernel
theorem dX8_init_48 : decode cX8_init 48 = .ok (.newarray .int, 2) := by decide +kernel
theorem dX8_init_50 : decode cX8_init 50 = .ok (.putfield 31, 3) := by decide +kernel
theorem dX8_init_53 : decode cX8_init 53 = .ok (.return_, 1) := by decide +kernel
theorem dX2_init_0 : decode cX2_init 0 = .ok (.aload_n 0, 1) := by decide +kernel
theorem dX2_init_1 : decode cX2_init 1 = .ok (.invokespecial 3, 3) := by decide +kernel
theorem dX2_init_4 : decode cX2_init 4 = .ok (.aload_n 0, 1) := by decide +kernel
theorem dX2_init_5 : decode cX2_init 5 = .ok (.new 9, 3) := by decide +kernel
theorem dX2_init_8 : decode cX2_init 8 = .ok (.dup, 1) := by decide +kernel
theorem dX2_init_9 : decode cX2_init 9 = .ok (.sipush 241, 3) := by decide +kernel
theorem dX2_init_12 : decode cX2_init 12 = .ok (.invokespecial 11, 3) := by decide +kernel
theorem dX2_init_15 : decode cX2_init 15 = .ok (.putfield 14, 3) := by decide +kernel
theorem dX2_init_18 : decode cX2_init 18 = .ok (.aload_n 0, 1) := by decide +kernel
theorem dX2_init_19 : decode cX2_init 19 = .ok (.new 9, 3) := by decide +kernel
theorem dX2_init_22 : decode cX2_init 22 = .ok (.dup, 1) := by decide +kernel
theorem dX2_init_23 : decode cX2_init 23 = .ok (.sipush 241, 3) := by decide +kernel
theorem dX2_init_26 : decode cX2_init 26 = .ok (.invokespecial 11, 3) := by decide +kernel
theorem dX2_init_29 : decode cX2_init 29 = .ok (.putfield 20, 3) := by decide +kernel
theorem dX2_init_32 : decode cX2_init 32 = .ok (.aload_n 0, 1) := by decide +kernel
theorem dX2_init_33 : decode cX2_init 33 = .ok (.new 23, 3) := by decide +kernel
theorem dX2_init_36 : decode cX2_init 36 = .ok (.dup, 1) := by decide +kernel
theorem dX2_init_37 : decode cX2_init 37 = .ok (.invokespecial 25, 3) := by decide +kernel
theorem dX2_init_40 : decode cX2_init 40 = .ok (.putfield 26, 3) := by decide +kernel
theorem dX2_init_43 : decode cX2_init 43 = .ok (.aload_n 0, 1) := by decide +kernel
theorem dX2_init_44 : decode cX2_init 44 = .ok (.aload_n 1, 1) := by decide +kernel
theorem dX2_init_45 : decode cX2_init 45 = .ok (.putfield 30, 3) := by decide +kernel
theorem dX2_init_48 : decode cX2_init 48 = .ok (.return_, 1) := by decide +kernel
theorem dX4_init_0 : decode cX4_init 0 = .ok (.aload_n 0, 1) := by decide +kernel
theorem dX4_init_1 : decode cX4_init 1 = .ok (.invokespecial 3, 3) := by decide +kernel
theorem dX4_init_4 : decode cX4_init 4 = .ok (.aload_n 0, 1) := by decide +kernel
theorem dX4_init_5 : decode cX4_init 5 = .ok (.iconst 5, 1) := by decide +kernel
theorem dX4_init_6 : decode cX4_init 6 = .ok (.newarray .int, 2) := by decide +kernel
theorem dX4_init_8 : decode cX4_init 8 = .ok (.putfield 9, 3) := by decide +kernel
theorem dX4_init_11 : decode cX4_init 11 = .ok (.aload_n 0, 1) := by decide +kernel
theorem dX4_init_12 : decode cX4_init 12 = .ok (.iconst 5, 1) := by decide +kernel
theorem dX4_init_13 : decode cX4_init 13 = .ok (.newarray .int, 2) := by decide +kernel
theorem dX4_init_15 : decode cX4_init 15 = .ok (.putfield 15, 3) := by decide +kernel
theorem dX4_init_18 : decode cX4_init 18 = .ok (.aload_n 0, 1) := by decide +kernel
theorem dX4_init_19 : decode cX4_init 19 = .ok (.iconst 5, 1) := by decide +kernel
theorem dX4_init_20 : decode cX4_init 20 = .ok (.newarray .int, 2) := by decide +kernel
theorem dX4_init_22 : decode cX4_init 22 = .ok (.putfield 18, 3) := by decide +kernel
theorem dX4_init_25 : decode cX4_init 25 = .ok (.aload_n 0, 1) := by decide +kernel
theorem dX4_init_26 : decode cX4_init 26 = .ok (.iconst 5, 1) := by decide +kernel
theorem dX4_init_27 : decode cX4_init 27 = .ok (.newarray .int, 2) := by decide +kernel
theorem dX4_init_29 : decode cX4_init 29 = .ok (.putfield 21, 3) := by decide +kernel
theorem dX4_init_32 : decode cX4_init 32 = .ok (.aload_n 0, 1) := by decide +kernel
theorem dX4_init_33 : decode cX4_init 33 = .ok (.iconst 5, 1) := by decide +kernel
theorem dX4_init_34 : decode cX4_init 34 = .ok (.newarray .int, 2) := by decide +kernel
theorem dX4_init_36 : decode cX4_init 36 = .ok (.putfield 24, 3) := by decide +kernel
theorem dX4_init_39 : decode cX4_init 39 = .ok (.aload_n 0, 1) := by decide +kernel
theorem dX4_init_40 : decode cX4_init 40 = .ok (.iconst 5, 1) := by decide +kernel
theorem dX4_init_41 : decode cX4_init 41 = .ok (.newarray .int, 2) := by decide +kernel
theorem dX4_init_43 : decode cX4_init 43 = .ok (.putfield 27, 3) := by decide +kernel
theorem dX4_init_46 : decode cX4_init 46 = .ok (.aload_n 0, 1) := by decide +kernel
theorem dX4_init_47 : decode cX4_init 47 = .ok (.bipush 9, 2) := by decide +kernel
theorem dX4_init_49 : decode cX4_init 49 = .ok (.newarray .int, 2) := by decide +kernel
theorem dX4_init_51 : decode cX4_init 51 = .ok (.putfield 32, 3) := by decide +kernel
theorem dX4_init_54 : decode cX4_init 54 = .ok (.aload_n 0, 1) := by decide +kernel
theorem dX4_init_55 : decode cX4_init 55 = .ok (.bipush 19, 2) := by decide +kernel
theorem dX4_init_57 : decode cX4_init 57 = .ok (.newarray .int, 2) := by decide +kernel
theorem dX4_init_59 : decode cX4_init 59 = .ok (.putfield 37, 3) := by decide +kernel
theorem dX4_init_62 : decode cX4_init 62 = .ok (.aload_n 0, 1) := by decide +kernel
theorem dX4_init_63 : decode cX4_init 63 = .ok (.bipush 19, 2) := by decide +kernel
theorem dX4_init_65 : decode cX4_init 65 = .ok (.newarray .int, 2) := by decide +kernel
theorem dX4_init_67 : decode cX4_init 67 = .ok (.putfield 40, 3) := by decide +kernel
theorem dX4_init_70 : decode cX4_init 70 = .ok (.aload_n 0, 1) := by decide +kernel
theorem dX4_init_71 : decode cX4_init 71 = .ok (.bipush 19, 2) := by decide +kernel
theorem dX4_init_73 : decode cX4_init 73 = .ok (.newarray .int, 2) := by decide +kernel
theorem dX4_init_75 : decode cX4_init 75 = .ok (.putfield 43, 3) := by decide +kernel
theorem dX4_init_78 : decode cX4_init 78 = .ok (.aload_n 0, 1) := by decide +kernel
theorem dX4_init_79 : decode cX4_init 79 = .ok (.bipush 19, 2) := by decide +kernel
theorem dX4_init_81 : decode cX4_init 81 = .ok (.newarray .int, 2) := by decide +kernel
theorem dX4_init_83 : decode cX4_init 83 = .ok (.putfield 46, 3) := by decide +kernel
theorem dX4_init_86 : decode cX4_init 86 = .ok (.aload_n 0, 1) := by decide +kernel
theorem dX4_init_87 : decode cX4_init 87 = .ok (.bipush 19, 2) := by decide +kernel
theorem dX4_init_89 : decode cX4_init 89 = .ok (.newarray .int, 2) := by decide +kernel
theorem dX4_init_91 : decode cX4_init 91 = .ok (.putfield 49, 3) := by decide +kernel
theorem dX4_init_94 : decode cX4_init 94 = .ok (.aload_n 0, 1) := by decide +kernel
theorem dX4_init_95 : decode cX4_init 95 = .ok (.bipush 19, 2) := by decide +kernel
theorem dX4_init_97 : decode cX4_init 97 = .ok (.newarray .int, 2) := by decide +kernel
theorem dX4_init_99 : decode cX4_init 99 = .ok (.putfield 52, 3) := by decide +kernel
theorem dX4_init_102 : decode cX4_init 102 = .ok (.return_, 1) := by decide +kernel
theorem dX5_init_0 : decode cX5_init 0 = .ok (.aload_n 0, 1) := by decide +kernel
theorem dX5_init_1 : decode cX5_init 1 = .ok (.invokespecial 3, 3) := by decide +kernel
theorem dX5_init_4 : decode cX5_init 4 = .ok (.aload_n 0, 1) := by decide +kernel
theorem dX5_init_5 : decode cX5_init 5 = .ok (.sipush 896, 3) := by decide +kernel
theorem dX5_init_8 : decode cX5_init 8 = .ok (.newarray .long, 2) := by decide +kernel
theorem dX5_init_10 : decode cX5_init 10 = .ok (.putfield 11, 3) := by decide +kernel
theorem dX5_init_13 : decode cX5_init 13 = .ok (.aload_n 0, 1) := by decide +kernel
theorem dX5_init_14 : decode cX5_init 14 = .ok (.iconst 0, 1) := by decide +kernel
theorem dX5_init_15 : decode cX5_init 15 = .ok (.newarray .long, 2) := by decide +kernel
theorem dX5_init_17 : decode cX5_init 17 = .ok (.putfield 17, 3) := by decide +kernel
theorem dX5_init_20 : decode cX5_init 20 = .ok (.aload_n 0, 1) := by decide +kernel
theorem dX5_init_21 : decode cX5_init 21 = .ok (.iconst (-1), 1) := by decide +kernel
theorem dX5_init_22 : decode cX5_init 22 = .ok (.putfield 20, 3) := by decide +kernel
theorem dX5_init_25 : decode cX5_init 25 = .ok (.aload_n 0, 1) := by decide +kernel
theorem dX5_init_26 : decode cX5_init 26 = .ok (.aload_n 1, 1) := by decide +kernel
theorem dX5_init_27 : decode cX5_init 27 = .ok (.putfield 24, 3) := by decide +kernel
theorem dX5_init_30 : decode cX5_init 30 = .ok (.return_, 1) := by decide +kernel
theorem dX9_init_0 : decode cX9_init 0 = .ok (.aload_n 0, 1) := by decide +kernel
theorem dX9_init_1 : decode cX9_init 1 = .ok (.invokespecial 5, 3) := by decide +kernel
theorem dX9_init_4 : decode cX9_init 4 = .ok (.aload_n 0, 1) := by decide +kernel
theorem dX9_init_5 : decode cX9_init 5 = .ok (.new 11, 3) := by decide +kernel
theorem dX9_init_8 : decode cX9_init 8 = .ok (.dup, 1) := by decide +kernel
theorem dX9_init_9 : decode cX9_init 9 = .ok (.bipush 8, 2) := by decide +kernel
theorem dX9_init_11 : decode cX9_init 11 = .ok (.invokespecial 13, 3) := by decide +kernel
theorem dX9_init_14 : decode cX9_init 14 = .ok (.putfield 16, 3) := by decide +kernel
theorem dX9_init_17 : decode cX9_init 17 = .ok (.aload_n 0, 1) := by decide +kernel
theorem dX9_init_18 : decode cX9_init 18 = .ok (.bipush 17, 2) := by decide +kernel
theorem dX9_init_20 : decode cX9_init 20 = .ok (.newarray .int, 2) := by decide +kernel
theorem dX9_init_22 : decode cX9_init 22 = .ok (.putfield 20, 3) := by decide +kernel
theorem dX9_init_25 : decode cX9_init 25 = .ok (.return_, 1) := by decide +kernel
theorem dX8_people_0 : decode cX8_people 0 = .ok (.aload_n 0, 1) := by decide +kernel
theorem dX8_people_1 : decode cX8_people 1 = .ok (.getfield 9, 3) := by decide +kernel
theorem dX8_people_4 : decode cX8_people 4 = .ok (.ireturn, 1) := by decide +kernel
theorem dX8_spells_0 : decode cX8_spells 0 = .ok (.aload_n 0, 1) := by decide +kernel
theorem dX8_spells_1 : decode cX8_spells 1 = .ok (.getfield 34, 3) := by decide +kernel
theorem dX8_spells_4 : decode cX8_spells 4 = .ok (.ireturn, 1) := by decide +kernel
theorem dX8_hasSpell_0 : decode cX8_hasSpell 0 = .ok (.iload_n 1, 1) := by decide +kernel
theorem dX8_hasSpell_1 : decode cX8_hasSpell 1 = .ok (.ifCond .lt 20, 3) := by decide +kernel
theorem dX8_hasSpell_4 : decode cX8_hasSpell 4 = .ok (.iload_n 1, 1) := by decide +kernel
theorem dX8_hasSpell_5 : decode cX8_hasSpell 5 = .ok (.aload_n 0, 1) := by decide +kernel
theorem dX8_hasSpell_6 : decode cX8_hasSpell 6 = .ok (.getfield 34, 3) := by decide +kernel
theorem dX8_hasSpell_9 : decode cX8_hasSpell 9 = .ok (.if_icmp .ge 12, 3) := by decide +kernel
theorem dX8_hasSpell_12 : decode cX8_hasSpell 12 = .ok (.iload_n 1, 1) := by decide +kernel
theorem dX8_hasSpell_13 : decode cX8_hasSpell 13 = .ok (.iconst 5, 1) := by decide +kernel
theorem dX8_hasSpell_14 : decode cX8_hasSpell 14 = .ok (.if_icmp .ge 7, 3) := by decide +kernel
theorem dX8_hasSpell_17 : decode cX8_hasSpell 17 = .ok (.iconst 1, 1) := by decide +kernel
theorem dX8_hasSpell_18 : decode cX8_hasSpell 18 = .ok (.goto 4, 3) := by decide +kernel
theorem dX8_hasSpell_21 : decode cX8_hasSpell 21 = .ok (.iconst 0, 1) := by decide +kernel
theorem dX8_hasSpell_22 : decode cX8_hasSpell 22 = .ok (.ireturn, 1) := by decide +kernel
theorem dX8_kindOf_0 : decode cX8_kindOf 0 = .ok (.aload_n 0, 1) := by decide +kernel
theorem dX8_kindOf_1 : decode cX8_kindOf 1 = .ok (.iload_n 1, 1) := by decide +kernel
theorem dX8_kindOf_2 : decode cX8_kindOf 2 = .ok (.invokevirtual 53, 3) := by decide +kernel
theorem dX8_kindOf_5 : decode cX8_kindOf 5 = .ok (.ifCond .eq 12, 3) := by decide +kernel
theorem dX8_kindOf_8 : decode cX8_kindOf 8 = .ok (.aload_n 0, 1) := by decide +kernel
theorem dX8_kindOf_9 : decode cX8_kindOf 9 = .ok (.getfield 15, 3) := by decide +kernel
theorem dX8_kindOf_12 : decode cX8_kindOf 12 = .ok (.iload_n 1, 1) := by decide +kernel
theorem dX8_kindOf_13 : decode cX8_kindOf 13 = .ok (.iaload, 1) := by decide +kernel
theorem dX8_kindOf_14 : decode cX8_kindOf 14 = .ok (.goto 4, 3) := by decide +kernel
theorem dX8_kindOf_17 : decode cX8_kindOf 17 = .ok (.iconst (-1), 1) := by decide +kernel
theorem dX8_kindOf_18 : decode cX8_kindOf 18 = .ok (.ireturn, 1) := by decide +kernel
theorem dX8_targetOf_0 : decode cX8_targetOf 0 = .ok (.aload_n 0, 1) := by decide +kernel
theorem dX8_targetOf_1 : decode cX8_targetOf 1 = .ok (.iload_n 1, 1) := by decide +kernel
theorem dX8_targetOf_2 : decode cX8_targetOf 2 = .ok (.invokevirtual 53, 3) := by decide +kernel
theorem dX8_targetOf_5 : decode cX8_targetOf 5 = .ok (.ifCond .eq 12, 3) := by decide +kernel
theorem dX8_targetOf_8 : decode cX8_targetOf 8 = .ok (.aload_n 0, 1) := by decide +kernel
theorem dX8_targetOf_9 : decode cX8_targetOf 9 = .ok (.getfield 19, 3) := by decide +kernel
theorem dX8_targetOf_12 : decode cX8_targetOf 12 = .ok (.iload_n 1, 1) := by decide +kernel
theorem dX8_targetOf_13 : decode cX8_targetOf 13 = .ok (.iaload, 1) := by decide +kernel
theorem dX8_targetOf_14 : decode cX8_targetOf 14 = .ok (.goto 4, 3) := by decide +kernel
theorem dX8_targetOf_17 : decode cX8_targetOf 17 = .ok (.iconst (-1), 1) := by decide +kernel
theorem dX8_targetOf_18 : decode cX8_targetOf 18 = .ok (.ireturn, 1) := by decide +kernel
theorem dX4_isCurse_0 : decode cX4_isCurse 0 = .ok (.iload_n 0, 1) := by decide +kernel
theorem dX4_isCurse_1 : decode cX4_isCurse 1 = .ok (.ifCond .lt 21, 3) := by decide +kernel
theorem dX4_isCurse_4 : decode cX4_isCurse 4 = .ok (.iload_n 0, 1) := by decide +kernel
theorem dX4_isCurse_5 : decode cX4_isCurse 5 = .ok (.iconst 3, 1) := by decide +kernel
theorem dX4_isCurse_6 : decode cX4_isCurse 6 = .ok (.if_icmp .ge 16, 3) := by decide +kernel
theorem dX4_isCurse_9 : decode cX4_isCurse 9 = .ok (.iload_n 1, 1) := by decide +kernel
theorem dX4_isCurse_10 : decode cX4_isCurse 10 = .ok (.ifCond .lt 12, 3) := by decide +kernel
theorem dX4_isCurse_13 : decode cX4_isCurse 13 = .ok (.iload_n 1, 1) := by decide +kernel
theorem dX4_isCurse_14 : decode cX4_isCurse 14 = .ok (.iconst 3, 1) := by decide +kernel
theorem dX4_isCurse_15 : decode cX4_isCurse 15 = .ok (.if_icmp .ge 7, 3) := by decide +kernel
theorem dX4_isCurse_18 : decode cX4_isCurse 18 = .ok (.iconst 1, 1) := by decide +kernel
theorem dX4_isCurse_19 : decode cX4_isCurse 19 = .ok (.goto 4, 3) := by decide +kernel
theorem dX4_isCurse_22 : decode cX4_isCurse 22 = .ok (.iconst 0, 1) := by decide +kernel
theorem dX4_isCurse_23 : decode cX4_isCurse 23 = .ok (.ireturn, 1) := by decide +kernel
theorem dX4_learnTargets_0 : decode cX4_learnTargets 0 = .ok (.aload_n 0, 1) := by decide +kernel
theorem dX4_learnTargets_1 : decode cX4_learnTargets 1 = .ok (.getfield 32, 3) := by decide +kernel
theorem dX4_learnTargets_4 : decode cX4_learnTargets 4 = .ok (.iconst 0, 1) := by decide +kernel
theorem dX4_learnTargets_5 : decode cX4_learnTargets 5 = .ok (.invokestatic 86, 3) := by decide +kernel
theorem dX4_learnTargets_8 : decode cX4_learnTargets 8 = .ok (.aload_n 0, 1) := by decide +kernel
theorem dX4_learnTargets_9 : decode cX4_learnTargets 9 = .ok (.getfield 27, 3) := by decide +kernel
theorem dX4_learnTargets_12 : decode cX4_learnTargets 12 = .ok (.iconst 0, 1) := by decide +kernel
theorem dX4_learnTargets_13 : decode cX4_learnTargets 13 = .ok (.invokestatic 86, 3) := by decide +kernel
theorem dX4_learnTargets_16 : decode cX4_learnTargets 16 = .ok (.iconst 0, 1) := by decide +kernel
theorem dX4_learnTargets_17 : decode cX4_learnTargets 17 = .ok (.istore_n 2, 1) := by decide +kernel
theorem dX4_learnTargets_18 : decode cX4_learnTargets 18 = .ok (.iload_n 2, 1) := by decide +kernel
theorem dX4_learnTargets_19 : decode cX4_learnTargets 19 = .ok (.aload_n 0, 1) := by decide +kernel
theorem dX4_learnTargets_20 : decode cX4_learnTargets 20 = .ok (.getfield 73, 3) := by decide +kernel
theorem dX4_learnTargets_23 : decode cX4_learnTargets 23 = .ok (.if_icmp .ge 85, 3) := by decide +kernel
theorem dX4_learnTargets_26 : decode cX4_learnTargets 26 = .ok (.iload_n 2, 1) := by decide +kernel
theorem dX4_learnTargets_27 : decode cX4_learnTargets 27 = .ok (.iconst 5, 1) := by decide +kernel
theorem dX4_learnTargets_28 : decode cX4_learnTargets 28 = .ok (.if_icmp .ge 80, 3) := by decide +kernel
theorem dX4_learnTargets_31 : decode cX4_learnTargets 31 = .ok (.aload_n 1, 1) := by decide +kernel
theorem dX4_learnTargets_32 : decode cX4_learnTargets 32 = .ok (.iload_n 2, 1) := by decide +kernel
theorem dX4_learnTargets_33 : decode cX4_learnTargets 33 = .ok (.invokevirtual 92, 3) := by decide +kernel
theorem dX4_learnTargets_36 : decode cX4_learnTargets 36 = .ok (.istore_n 3, 1) := by decide +kernel
theorem dX4_learnTargets_37 : decode cX4_learnTargets 37 = .ok (.aload_n 1, 1) := by decide +kernel
theorem dX4_learnTargets_38 : decode cX4_learnTargets 38 = .ok (.iload_n 2, 1) := by decide +kernel
theorem dX4_learnTargets_39 : decode cX4_learnTargets 39 = .ok (.invokevirtual 96, 3) := by decide +kernel
theorem dX4_learnTargets_42 : decode cX4_learnTargets 42 = .ok (.istore 4, 2) := by decide +kernel
theorem dX4_learnTargets_44 : decode cX4_learnTargets 44 = .ok (.iload_n 3, 1) := by decide +kernel
theorem dX4_learnTargets_45 : decode cX4_learnTargets 45 = .ok (.iconst 3, 1) := by decide +kernel
theorem dX4_learnTargets_46 : decode cX4_learnTargets 46 = .ok (.if_icmp .ne 30, 3) := by decide +kernel
theorem dX4_learnTargets_49 : decode cX4_learnTargets 49 = .ok (.iload 4, 2) := by decide +kernel
theorem dX4_learnTargets_51 : decode cX4_learnTargets 51 = .ok (.ifCond .lt 25, 3) := by decide +kernel
theorem dX4_learnTargets_54 : decode cX4_learnTargets 54 = .ok (.iload 4, 2) := by decide +kernel
theorem dX4_learnTargets_56 : decode cX4_learnTargets 56 = .ok (.iconst 5, 1) := by decide +kernel
theorem dX4_learnTargets_57 : decode cX4_learnTargets 57 = .ok (.if_icmp .ge 19, 3) := by decide +kernel
theorem dX4_learnTargets_60 : decode cX4_learnTargets 60 = .ok (.aload_n 0, 1) := by decide +kernel
theorem dX4_learnTargets_61 : decode cX4_learnTargets 61 = .ok (.getfield 27, 3) := by decide +kernel
theorem dX4_learnTargets_64 : decode cX4_learnTargets 64 = .ok (.iload 4, 2) := by decide +kernel
theorem dX4_learnTargets_66 : decode cX4_learnTargets 66 = .ok (.dup2, 1) := by decide +kernel
theorem dX4_learnTargets_67 : decode cX4_learnTargets 67 = .ok (.iaload, 1) := by decide +kernel
theorem dX4_learnTargets_68 : decode cX4_learnTargets 68 = .ok (.iconst 1, 1) := by decide +kernel
theorem dX4_learnTargets_69 : decode cX4_learnTargets 69 = .ok (.iload_n 2, 1) := by decide +kernel
theorem dX4_learnTargets_70 : decode cX4_learnTargets 70 = .ok (.ishl, 1) := by decide +kernel
theorem dX4_learnTargets_71 : decode cX4_learnTargets 71 = .ok (.ior, 1) := by decide +kernel
theorem dX4_learnTargets_72 : decode cX4_learnTargets 72 = .ok (.iastore, 1) := by decide +kernel
theorem dX4_learnTargets_73 : decode cX4_learnTargets 73 = .ok (.goto 29, 3) := by decide +kernel
theorem dX4_learnTargets_76 : decode cX4_learnTargets 76 = .ok (.iload 4, 2) := by decide +kernel
theorem dX4_learnTargets_78 : decode cX4_learnTargets 78 = .ok (.iload_n 3, 1) := by decide +kernel
theorem dX4_learnTargets_79 : decode cX4_learnTargets 79 = .ok (.invokestatic 99, 3) := by decide +kernel
theorem dX4_learnTargets_82 : decode cX4_learnTargets 82 = .ok (.ifCond .eq 20, 3) := by decide +kernel
theorem dX4_learnTargets_85 : decode cX4_learnTargets 85 = .ok (.aload_n 0, 1) := by decide +kernel
theorem dX4_learnTargets_86 : decode cX4_learnTargets 86 = .ok (.getfield 32, 3) := by decide +kernel
theorem dX4_learnTargets_89 : decode cX4_learnTargets 89 = .ok (.iload_n 3, 1) := by decide +kernel
theorem dX4_learnTargets_90 : decode cX4_learnTargets 90 = .ok (.iconst 3, 1) := by decide +kernel
theorem dX4_learnTargets_91 : decode cX4_learnTargets 91 = .ok (.imul, 1) := by decide +kernel
theorem dX4_learnTargets_92 : decode cX4_learnTargets 92 = .ok (.iload 4, 2) := by decide +kernel
theorem dX4_learnTargets_94 : decode cX4_learnTargets 94 = .ok (.iadd, 1) := by decide +kernel
theorem dX4_learnTargets_95 : decode cX4_learnTargets 95 = .ok (.dup2, 1) := by decide +kernel
theorem dX4_learnTargets_96 : decode cX4_learnTargets 96 = .ok (.iaload, 1) := by decide +kernel
theorem dX4_learnTargets_97 : decode cX4_learnTargets 97 = .ok (.iconst 1, 1) := by decide +kernel
theorem dX4_learnTargets_98 : decode cX4_learnTargets 98 = .ok (.iload_n 2, 1) := by decide +kernel
theorem dX4_learnTargets_99 : decode cX4_learnTargets 99 = .ok (.ishl, 1) := by decide +kernel
theorem dX4_learnTargets_100 : decode cX4_learnTargets 100 = .ok (.ior, 1) := by decide +kernel
theorem dX4_learnTargets_101 : decode cX4_learnTargets 101 = .ok (.iastore, 1) := by decide +kernel
theorem dX4_learnTargets_102 : decode cX4_learnTargets 102 = .ok (.iinc 2 1, 3) := by decide +kernel
theorem dX4_learnTargets_105 : decode cX4_learnTargets 105 = .ok (.goto (-87), 3) := by decide +kernel
theorem dX4_learnTargets_108 : decode cX4_learnTargets 108 = .ok (.return_, 1) := by decide +kernel
theorem dX8_wakenedBy_0 : decode cX8_wakenedBy 0 = .ok (.aload_n 0, 1) := by decide +kernel
theorem dX8_wakenedBy_1 : decode cX8_wakenedBy 1 = .ok (.iload_n 1, 1) := by decide +kernel
theorem dX8_wakenedBy_2 : decode cX8_wakenedBy 2 = .ok (.invokevirtual 53, 3) := by decide +kernel
theorem dX8_wakenedBy_5 : decode cX8_wakenedBy 5 = .ok (.ifCond .eq 12, 3) := by decide +kernel
theorem dX8_wakenedBy_8 : decode cX8_wakenedBy 8 = .ok (.aload_n 0, 1) := by decide +kernel
theorem dX8_wakenedBy_9 : decode cX8_wakenedBy 9 = .ok (.getfield 22, 3) := by decide +kernel
theorem dX8_wakenedBy_12 : decode cX8_wakenedBy 12 = .ok (.iload_n 1, 1) := by decide +kernel
theorem dX8_wakenedBy_13 : decode cX8_wakenedBy 13 = .ok (.iaload, 1) := by decide +kernel
theorem dX8_wakenedBy_14 : decode cX8_wakenedBy 14 = .ok (.goto 4, 3) := by decide +kernel
theorem dX8_wakenedBy_17 : decode cX8_wakenedBy 17 = .ok (.iconst (-1), 1) := by decide +kernel
theorem dX8_wakenedBy_18 : decode cX8_wakenedBy 18 = .ok (.ireturn, 1) := by decide +kernel
theorem dX8_termsOf_0 : decode cX8_termsOf 0 = .ok (.aload_n 0, 1) := by decide +kernel
theorem dX8_termsOf_1 : decode cX8_termsOf 1 = .ok (.iload_n 1, 1) := by decide +kernel
theorem dX8_termsOf_2 : decode cX8_termsOf 2 = .ok (.invokevirtual 53, 3) := by decide +kernel
theorem dX8_termsOf_5 : decode cX8_termsOf 5 = .ok (.ifCond .eq 12, 3) := by decide +kernel
theorem dX8_termsOf_8 : decode cX8_termsOf 8 = .ok (.aload_n 0, 1) := by decide +kernel
theorem dX8_termsOf_9 : decode cX8_termsOf 9 = .ok (.getfield 25, 3) := by decide +kernel
theorem dX8_termsOf_12 : decode cX8_termsOf 12 = .ok (.iload_n 1, 1) := by decide +kernel
theorem dX8_termsOf_13 : decode cX8_termsOf 13 = .ok (.iaload, 1) := by decide +kernel
theorem dX8_termsOf_14 : decode cX8_termsOf 14 = .ok (.goto 4, 3) := by decide +kernel
theorem dX8_termsOf_17 : decode cX8_termsOf 17 = .ok (.iconst 0, 1) := by decide +kernel
theorem dX8_termsOf_18 : decode cX8_termsOf 18 = .ok (.ireturn, 1) := by decide +kernel
theorem dX8_hasTerm_0 : decode cX8_hasTerm 0 = .ok (.aload_n 0, 1) := by decide +kernel
theorem dX8_hasTerm_1 : decode cX8_hasTerm 1 = .ok (.iload_n 1, 1) := by decide +kernel
theorem dX8_hasTerm_2 : decode cX8_hasTerm 2 = .ok (.invokevirtual 53, 3) := by decide +kernel
theorem dX8_hasTerm_5 : decode cX8_hasTerm 5 = .ok (.ifCond .eq 26, 3) := by decide +kernel
theorem dX8_hasTerm_8 : decode cX8_hasTerm 8 = .ok (.iload_n 2, 1) := by decide +kernel
theorem dX8_hasTerm_9 : decode cX8_hasTerm 9 = .ok (.ifCond .lt 22, 3) := by decide +kernel
theorem dX8_hasTerm_12 : decode cX8_hasTerm 12 = .ok (.iload_n 2, 1) := by decide +kernel
theorem dX8_hasTerm_13 : decode cX8_hasTerm 13 = .ok (.iconst 3, 1) := by decide +kernel
theorem dX8_hasTerm_14 : decode cX8_hasTerm 14 = .ok (.if_icmp .ge 17, 3) := by decide +kernel
theorem dX8_hasTerm_17 : decode cX8_hasTerm 17 = .ok (.iload_n 2, 1) := by decide +kernel
theorem dX8_hasTerm_18 : decode cX8_hasTerm 18 = .ok (.aload_n 0, 1) := by decide +kernel
theorem dX8_hasTerm_19 : decode cX8_hasTerm 19 = .ok (.getfield 25, 3) := by decide +kernel
theorem dX8_hasTerm_22 : decode cX8_hasTerm 22 = .ok (.iload_n 1, 1) := by decide +kernel
theorem dX8_hasTerm_23 : decode cX8_hasTerm 23 = .ok (.iaload, 1) := by decide +kernel
theorem dX8_hasTerm_24 : decode cX8_hasTerm 24 = .ok (.if_icmp .ge 7, 3) := by decide +kernel
theorem dX8_hasTerm_27 : decode cX8_hasTerm 27 = .ok (.iconst 1, 1) := by decide +kernel
theorem dX8_hasTerm_28 : decode cX8_hasTerm 28 = .ok (.goto 4, 3) := by decide +kernel
theorem dX8_hasTerm_31 : decode cX8_hasTerm 31 = .ok (.iconst 0, 1) := by decide +kernel
theorem dX8_hasTerm_32 : decode cX8_hasTerm 32 = .ok (.ireturn, 1) := by decide +kernel
theorem dX8_sortOf_0 : decode cX8_sortOf 0 = .ok (.aload_n 0, 1) := by decide +kernel
theorem dX8_sortOf_1 : decode cX8_sortOf 1 = .ok (.iload_n 1, 1) := by decide +kernel
theorem dX8_sortOf_2 : decode cX8_sortOf 2 = .ok (.iload_n 2, 1) := by decide +kernel
theorem dX8_sortOf_3 : decode cX8_sortOf 3 = .ok (.invokevirtual 57, 3) := by decide +kernel
theorem dX8_sortOf_6 : decode cX8_sortOf 6 = .ok (.ifCond .eq 16, 3) := by decide +kernel
theorem dX8_sortOf_9 : decode cX8_sortOf 9 = .ok (.aload_n 0, 1) := by decide +kernel
theorem dX8_sortOf_10 : decode cX8_sortOf 10 = .ok (.getfield 28, 3) := by decide +kernel
theorem dX8_sortOf_13 : decode cX8_sortOf 13 = .ok (.iload_n 1, 1) := by decide +kernel
theorem dX8_sortOf_14 : decode cX8_sortOf 14 = .ok (.iconst 3, 1) := by decide +kernel
theorem dX8_sortOf_15 : decode cX8_sortOf 15 = .ok (.imul, 1) := by decide +kernel
theorem dX8_sortOf_16 : decode cX8_sortOf 16 = .ok (.iload_n 2, 1) := by decide +kernel
theorem dX8_sortOf_17 : decode cX8_sortOf 17 = .ok (.iadd, 1) := by decide +kernel
theorem dX8_sortOf_18 : decode cX8_sortOf 18 = .ok (.iaload, 1) := by decide +kernel
theorem dX8_sortOf_19 : decode cX8_sortOf 19 = .ok (.goto 4, 3) := by decide +kernel
theorem dX8_sortOf_22 : decode cX8_sortOf 22 = .ok (.iconst (-1), 1) := by decide +kernel
theorem dX8_sortOf_23 : decode cX8_sortOf 23 = .ok (.ireturn, 1) := by decide +kernel
theorem dX8_numberOf_0 : decode cX8_numberOf 0 = .ok (.aload_n 0, 1) := by decide +kernel
theorem dX8_numberOf_1 : decode cX8_numberOf 1 = .ok (.iload_n 1, 1) := by decide +kernel
theorem dX8_numberOf_2 : decode cX8_numberOf 2 = .ok (.iload_n 2, 1) := by decide +kernel
theorem dX8_numberOf_3 : decode cX8_numberOf 3 = .ok (.invokevirtual 57, 3) := by decide +kernel
theorem dX8_numberOf_6 : decode cX8_numberOf 6 = .ok (.ifCond .eq 16, 3) := by decide +kernel
theorem dX8_numberOf_9 : decode cX8_numberOf 9 = .ok (.aload_n 0, 1) := by decide +kernel
theorem dX8_numberOf_10 : decode cX8_numberOf 10 = .ok (.getfield 31, 3) := by decide +kernel
theorem dX8_numberOf_13 : decode cX8_numberOf 13 = .ok (.iload_n 1, 1) := by decide +kernel
theorem dX8_numberOf_14 : decode cX8_numberOf 14 = .ok (.iconst 3, 1) := by decide +kernel
theorem dX8_numberOf_15 : decode cX8_numberOf 15 = .ok (.imul, 1) := by decide +kernel
theorem dX8_numberOf_16 : decode cX8_numberOf 16 = .ok (.iload_n 2, 1) := by decide +kernel
theorem dX8_numberOf_17 : decode cX8_numberOf 17 = .ok (.iadd, 1) := by decide +kernel
theorem dX8_numberOf_18 : decode cX8_numberOf 18 = .ok (.iaload, 1) := by decide +kernel
theorem dX8_numberOf_19 : decode cX8_numberOf 19 = .ok (.goto 4, 3) := by decide +kernel
theorem dX8_numberOf_22 : decode cX8_numberOf 22 = .ok (.iconst (-1), 1) := by decide +kernel
theorem dX8_numberOf_23 : decode cX8_numberOf 23 = .ok (.ireturn, 1) := by decide +kernel
theorem dX4_kissOf_0 : decode cX4_kissOf 0 = .ok (.iconst 1, 1) := by decide +kernel
theorem dX4_kissOf_1 : decode cX4_kissOf 1 = .ok (.iload_n 0, 1) := by decide +kernel
theorem dX4_kissOf_2 : decode cX4_kissOf 2 = .ok (.iconst 3, 1) := by decide +kernel
theorem dX4_kissOf_3 : decode cX4_kissOf 3 = .ok (.imul, 1) := by decide +kernel
theorem dX4_kissOf_4 : decode cX4_kissOf 4 = .ok (.iadd, 1) := by decide +kernel
theorem dX4_kissOf_5 : decode cX4_kissOf 5 = .ok (.iload_n 1, 1) := by decide +kernel
theorem dX4_kissOf_6 : decode cX4_kissOf 6 = .ok (.iadd, 1) := by decide +kernel
theorem dX4_kissOf_7 : decode cX4_kissOf 7 = .ok (.ireturn, 1) := by decide +kernel
theorem dX4_needKiss_0 : decode cX4_needKiss 0 = .ok (.iload_n 1, 1) := by decide +kernel
theorem dX4_needKiss_1 : decode cX4_needKiss 1 = .ok (.ifCond .lt 48, 3) := by decide +kernel
theorem dX4_needKiss_4 : decode cX4_needKiss 4 = .ok (.iload_n 1, 1) := by decide +kernel
theorem dX4_needKiss_5 : decode cX4_needKiss 5 = .ok (.iconst 5, 1) := by decide +kernel
theorem dX4_needKiss_6 : decode cX4_needKiss 6 = .ok (.if_icmp .ge 43, 3) := by decide +kernel
theorem dX4_needKiss_9 : decode cX4_needKiss 9 = .ok (.aload_n 0, 1) := by decide +kernel
theorem dX4_needKiss_10 : decode cX4_needKiss 10 = .ok (.getfield 21, 3) := by decide +kernel
theorem dX4_needKiss_13 : decode cX4_needKiss 13 = .ok (.iload_n 1, 1) := by decide +kernel
theorem dX4_needKiss_14 : decode cX4_needKiss 14 = .ok (.iaload, 1) := by decide +kernel
theorem dX4_needKiss_15 : decode cX4_needKiss 15 = .ok (.ifCond .eq 13, 3) := by decide +kernel
theorem dX4_needKiss_18 : decode cX4_needKiss 18 = .ok (.aload_n 0, 1) := by decide +kernel
theorem dX4_needKiss_19 : decode cX4_needKiss 19 = .ok (.getfield 21, 3) := by decide +kernel
theorem dX4_needKiss_22 : decode cX4_needKiss 22 = .ok (.iload_n 1, 1) := by decide +kernel
theorem dX4_needKiss_23 : decode cX4_needKiss 23 = .ok (.iaload, 1) := by decide +kernel
theorem dX4_needKiss_24 : decode cX4_needKiss 24 = .ok (.iload_n 2, 1) := by decide +kernel
theorem dX4_needKiss_25 : decode cX4_needKiss 25 = .ok (.if_icmp .ne 7, 3) := by decide +kernel
theorem dX4_needKiss_28 : decode cX4_needKiss 28 = .ok (.iconst 1, 1) := by decide +kernel
theorem dX4_needKiss_29 : decode cX4_needKiss 29 = .ok (.goto 4, 3) := by decide +kernel
theorem dX4_needKiss_32 : decode cX4_needKiss 32 = .ok (.iconst 0, 1) := by decide +kernel
theorem dX4_needKiss_33 : decode cX4_needKiss 33 = .ok (.istore_n 3, 1) := by decide +kernel
theorem dX4_needKiss_34 : decode cX4_needKiss 34 = .ok (.aload_n 0, 1) := by decide +kernel
theorem dX4_needKiss_35 : decode cX4_needKiss 35 = .ok (.getfield 21, 3) := by decide +kernel
theorem dX4_needKiss_38 : decode cX4_needKiss 38 = .ok (.iload_n 1, 1) := by decide +kernel
theorem dX4_needKiss_39 : decode cX4_needKiss 39 = .ok (.iload_n 3, 1) := by decide +kernel
theorem dX4_needKiss_40 : decode cX4_needKiss 40 = .ok (.ifCond .eq 7, 3) := by decide +kernel
theorem dX4_needKiss_43 : decode cX4_needKiss 43 = .ok (.iload_n 2, 1) := by decide +kernel
theorem dX4_needKiss_44 : decode cX4_needKiss 44 = .ok (.goto 4, 3) := by decide +kernel
theorem dX4_needKiss_47 : decode cX4_needKiss 47 = .ok (.iconst (-1), 1) := by decide +kernel
theorem dX4_needKiss_48 : decode cX4_needKiss 48 = .ok (.iastore, 1) := by decide +kernel
theorem dX4_needKiss_49 : decode cX4_needKiss 49 = .ok (.return_, 1) := by decide +kernel
theorem dX7_maskOf_0 : decode cX7_maskOf 0 = .ok (.iload_n 0, 1) := by decide +kernel
theorem dX7_maskOf_1 : decode cX7_maskOf 1 = .ok (.tableswitch 59 1 6 #[39, 46, 49, 49, 53, 53], 39) := by decide +kernel
theorem dX7_maskOf_40 : decode cX7_maskOf 40 = .ok (.iconst 1, 1) := by decide +kernel
theorem dX7_maskOf_41 : decode cX7_maskOf 41 = .ok (.bipush 7, 2) := by decide +kernel
theorem dX7_maskOf_43 : decode cX7_maskOf 43 = .ok (.iload_n 1, 1) := by decide +kernel
theorem dX7_maskOf_44 : decode cX7_maskOf 44 = .ok (.iadd, 1) := by decide +kernel
theorem dX7_maskOf_45 : decode cX7_maskOf 45 = .ok (.ishl, 1) := by decide +kernel
theorem dX7_maskOf_46 : decode cX7_maskOf 46 = .ok (.ireturn, 1) := by decide +kernel
theorem dX7_maskOf_47 : decode cX7_maskOf 47 = .ok (.ldc 22, 2) := by decide +kernel
theorem dX7_maskOf_49 : decode cX7_maskOf 49 = .ok (.ireturn, 1) := by decide +kernel
theorem dX7_maskOf_50 : decode cX7_maskOf 50 = .ok (.iconst 1, 1) := by decide +kernel
theorem dX7_maskOf_51 : decode cX7_maskOf 51 = .ok (.iload_n 1, 1) := by decide +kernel
theorem dX7_maskOf_52 : decode cX7_maskOf 52 = .ok (.ishl, 1) := by decide +kernel
theorem dX7_maskOf_53 : decode cX7_maskOf 53 = .ok (.ireturn, 1) := by decide +kernel
theorem dX7_maskOf_54 : decode cX7_maskOf 54 = .ok (.iconst 1, 1) := by decide +kernel
theorem dX7_maskOf_55 : decode cX7_maskOf 55 = .ok (.iconst 5, 1) := by decide +kernel
theorem dX7_maskOf_56 : decode cX7_maskOf 56 = .ok (.iload_n 1, 1) := by decide +kernel
theorem dX7_maskOf_57 : decode cX7_maskOf 57 = .ok (.iadd, 1) := by decide +kernel
theorem dX7_maskOf_58 : decode cX7_maskOf 58 = .ok (.ishl, 1) := by decide +kernel
theorem dX7_maskOf_59 : decode cX7_maskOf 59 = .ok (.ireturn, 1) := by decide +kernel
theorem dX7_maskOf_60 : decode cX7_maskOf 60 = .ok (.iconst 0, 1) := by decide +kernel
theorem dX7_maskOf_61 : decode cX7_maskOf 61 = .ok (.ireturn, 1) := by decide +kernel
theorem dX7_valueOf_0 : decode cX7_valueOf 0 = .ok (.iload_n 0, 1) := by decide +kernel
theorem dX7_valueOf_1 : decode cX7_valueOf 1 = .ok (.tableswitch 42 2 6 #[35, 42, 40, 42, 40], 35) := by decide +kernel
theorem dX7_valueOf_36 : decode cX7_valueOf 36 = .ok (.iload_n 1, 1) := by decide +kernel
theorem dX7_valueOf_37 : decode cX7_valueOf 37 = .ok (.bipush 13, 2) := by decide +kernel
theorem dX7_valueOf_39 : decode cX7_valueOf 39 = .ok (.ishl, 1) := by decide +kernel
theorem dX7_valueOf_40 : decode cX7_valueOf 40 = .ok (.ireturn, 1) := by decide +kernel
theorem dX7_valueOf_41 : decode cX7_valueOf 41 = .ok (.iconst 0, 1) := by decide +kernel
theorem dX7_valueOf_42 : decode cX7_valueOf 42 = .ok (.ireturn, 1) := by decide +kernel
theorem dX7_valueOf_43 : decode cX7_valueOf 43 = .ok (.iload_n 0, 1) := by decide +kernel
theorem dX7_valueOf_44 : decode cX7_valueOf 44 = .ok (.iload_n 1, 1) := by decide +kernel
theorem dX7_valueOf_45 : decode cX7_valueOf 45 = .ok (.invokestatic 15, 3) := by decide +kernel
theorem dX7_valueOf_48 : decode cX7_valueOf 48 = .ok (.ireturn, 1) := by decide +kernel
theorem dX4_needBits_0 : decode cX4_needBits 0 = .ok (.iload_n 1, 1) := by decide +kernel
theorem dX4_needBits_1 : decode cX4_needBits 1 = .ok (.ifCond .lt 8, 3) := by decide +kernel
theorem dX4_needBits_4 : decode cX4_needBits 4 = .ok (.iload_n 1, 1) := by decide +kernel
theorem dX4_needBits_5 : decode cX4_needBits 5 = .ok (.iconst 5, 1) := by decide +kernel
theorem dX4_needBits_6 : decode cX4_needBits 6 = .ok (.if_icmp .lt 4, 3) := by decide +kernel
theorem dX4_needBits_9 : decode cX4_needBits 9 = .ok (.return_, 1) := by decide +kernel
theorem dX4_needBits_10 : decode cX4_needBits 10 = .ok (.aload_n 0, 1) := by decide +kernel
theorem dX4_needBits_11 : decode cX4_needBits 11 = .ok (.getfield 9, 3) := by decide +kernel
theorem dX4_needBits_14 : decode cX4_needBits 14 = .ok (.iload_n 1, 1) := by decide +kernel
theorem dX4_needBits_15 : decode cX4_needBits 15 = .ok (.iaload, 1) := by decide +kernel
theorem dX4_needBits_16 : decode cX4_needBits 16 = .ok (.iload_n 2, 1) := by decide +kernel
theorem dX4_needBits_17 : decode cX4_needBits 17 = .ok (.iand, 1) := by decide +kernel
theorem dX4_needBits_18 : decode cX4_needBits 18 = .ok (.aload_n 0, 1) := by decide +kernel
theorem dX4_needBits_19 : decode cX4_needBits 19 = .ok (.getfield 15, 3) := by decide +kernel
theorem dX4_needBits_22 : decode cX4_needBits 22 = .ok (.iload_n 1, 1) := by decide +kernel
theorem dX4_needBits_23 : decode cX4_needBits 23 = .ok (.iaload, 1) := by decide +kernel
theorem dX4_needBits_24 : decode cX4_needBits 24 = .ok (.iload_n 3, 1) := by decide +kernel
theorem dX4_needBits_25 : decode cX4_needBits 25 = .ok (.ixor, 1) := by decide +kernel
theorem dX4_needBits_26 : decode cX4_needBits 26 = .ok (.iand, 1) := by decide +kernel
theorem dX4_needBits_27 : decode cX4_needBits 27 = .ok (.ifCond .eq 10, 3) := by decide +kernel
theorem dX4_needBits_30 : decode cX4_needBits 30 = .ok (.aload_n 0, 1) := by decide +kernel
theorem dX4_needBits_31 : decode cX4_needBits 31 = .ok (.getfield 21, 3) := by decide +kernel
theorem dX4_needBits_34 : decode cX4_needBits 34 = .ok (.iload_n 1, 1) := by decide +kernel
theorem dX4_needBits_35 : decode cX4_needBits 35 = .ok (.iconst (-1), 1) := by decide +kernel
theorem dX4_needBits_36 : decode cX4_needBits 36 = .ok (.iastore, 1) := by decide +kernel
theorem dX4_needBits_37 : decode cX4_needBits 37 = .ok (.aload_n 0, 1) := by decide +kernel
theorem dX4_needBits_38 : decode cX4_needBits 38 = .ok (.getfield 9, 3) := by decide +kernel
theorem dX4_needBits_41 : decode cX4_needBits 41 = .ok (.iload_n 1, 1) := by decide +kernel
theorem dX4_needBits_42 : decode cX4_needBits 42 = .ok (.dup2, 1) := by decide +kernel
theorem dX4_needBits_43 : decode cX4_needBits 43 = .ok (.iaload, 1) := by decide +kernel
theorem dX4_needBits_44 : decode cX4_needBits 44 = .ok (.iload_n 2, 1) := by decide +kernel
theorem dX4_needBits_45 : decode cX4_needBits 45 = .ok (.ior, 1) := by decide +kernel
theorem dX4_needBits_46 : decode cX4_needBits 46 = .ok (.iastore, 1) := by decide +kernel
theorem dX4_needBits_47 : decode cX4_needBits 47 = .ok (.aload_n 0, 1) := by decide +kernel
theorem dX4_needBits_48 : decode cX4_needBits 48 = .ok (.getfield 15, 3) := by decide +kernel
theorem dX4_needBits_51 : decode cX4_needBits 51 = .ok (.iload_n 1, 1) := by decide +kernel
theorem dX4_needBits_52 : decode cX4_needBits 52 = .ok (.dup2, 1) := by decide +kernel
theorem dX4_needBits_53 : decode cX4_needBits 53 = .ok (.iaload, 1) := by decide +kernel
theorem dX4_needBits_54 : decode cX4_needBits 54 = .ok (.iload_n 3, 1) := by decide +kernel
theorem dX4_needBits_55 : decode cX4_needBits 55 = .ok (.ior, 1) := by decide +kernel
theorem dX4_needBits_56 : decode cX4_needBits 56 = .ok (.iastore, 1) := by decide +kernel
theorem dX4_needBits_57 : decode cX4_needBits 57 = .ok (.return_, 1) := by decide +kernel
theorem dX4_learnSpell_0 : decode cX4_learnSpell 0 = .ok (.iload_n 2, 1) := by decide +kernel
theorem dX4_learnSpell_1 : decode cX4_learnSpell 1 = .ok (.ifCond .lt 8, 3) := by decide +kernel
theorem dX4_learnSpell_4 : decode cX4_learnSpell 4 = .ok (.iload_n 2, 1) := by decide +kernel
theorem dX4_learnSpell_5 : decode cX4_learnSpell 5 = .ok (.iconst 5, 1) := by decide +kernel
theorem dX4_learnSpell_6 : decode cX4_learnSpell 6 = .ok (.if_icmp .lt 4, 3) := by decide +kernel
theorem dX4_learnSpell_9 : decode cX4_learnSpell 9 = .ok (.return_, 1) := by decide +kernel
theorem dX4_learnSpell_10 : decode cX4_learnSpell 10 = .ok (.aload_n 0, 1) := by decide +kernel
theorem dX4_learnSpell_11 : decode cX4_learnSpell 11 = .ok (.getfield 9, 3) := by decide +kernel
theorem dX4_learnSpell_14 : decode cX4_learnSpell 14 = .ok (.iload_n 2, 1) := by decide +kernel
theorem dX4_learnSpell_15 : decode cX4_learnSpell 15 = .ok (.iconst 1, 1) := by decide +kernel
theorem dX4_learnSpell_16 : decode cX4_learnSpell 16 = .ok (.iload_n 2, 1) := by decide +kernel
theorem dX4_learnSpell_17 : decode cX4_learnSpell 17 = .ok (.ishl, 1) := by decide +kernel
theorem dX4_learnSpell_18 : decode cX4_learnSpell 18 = .ok (.aload_n 0, 1) := by decide +kernel
theorem dX4_learnSpell_19 : decode cX4_learnSpell 19 = .ok (.getfield 27, 3) := by decide +kernel
theorem dX4_learnSpell_22 : decode cX4_learnSpell 22 = .ok (.iload_n 2, 1) := by decide +kernel
theorem dX4_learnSpell_23 : decode cX4_learnSpell 23 = .ok (.iaload, 1) := by decide +kernel
theorem dX4_learnSpell_24 : decode cX4_learnSpell 24 = .ok (.ior, 1) := by decide +kernel
theorem dX4_learnSpell_25 : decode cX4_learnSpell 25 = .ok (.iastore, 1) := by decide +kernel
theorem dX4_learnSpell_26 : decode cX4_learnSpell 26 = .ok (.aload_n 0, 1) := by decide +kernel
theorem dX4_learnSpell_27 : decode cX4_learnSpell 27 = .ok (.getfield 15, 3) := by decide +kernel
theorem dX4_learnSpell_30 : decode cX4_learnSpell 30 = .ok (.iload_n 2, 1) := by decide +kernel
theorem dX4_learnSpell_31 : decode cX4_learnSpell 31 = .ok (.iconst 1, 1) := by decide +kernel
theorem dX4_learnSpell_32 : decode cX4_learnSpell 32 = .ok (.iload_n 2, 1) := by decide +kernel
theorem dX4_learnSpell_33 : decode cX4_learnSpell 33 = .ok (.ishl, 1) := by decide +kernel
theorem dX4_learnSpell_34 : decode cX4_learnSpell 34 = .ok (.iastore, 1) := by decide +kernel
theorem dX4_learnSpell_35 : decode cX4_learnSpell 35 = .ok (.aload_n 0, 1) := by decide +kernel
theorem dX4_learnSpell_36 : decode cX4_learnSpell 36 = .ok (.getfield 18, 3) := by decide +kernel
theorem dX4_learnSpell_39 : decode cX4_learnSpell 39 = .ok (.iload_n 2, 1) := by decide +kernel
theorem dX4_learnSpell_40 : decode cX4_learnSpell 40 = .ok (.iconst 0, 1) := by decide +kernel
theorem dX4_learnSpell_41 : decode cX4_learnSpell 41 = .ok (.iastore, 1) := by decide +kernel
theorem dX4_learnSpell_42 : decode cX4_learnSpell 42 = .ok (.aload_n 0, 1) := by decide +kernel
theorem dX4_learnSpell_43 : decode cX4_learnSpell 43 = .ok (.getfield 21, 3) := by decide +kernel
theorem dX4_learnSpell_46 : decode cX4_learnSpell 46 = .ok (.iload_n 2, 1) := by decide +kernel
theorem dX4_learnSpell_47 : decode cX4_learnSpell 47 = .ok (.iconst 0, 1) := by decide +kernel
theorem dX4_learnSpell_48 : decode cX4_learnSpell 48 = .ok (.iastore, 1) := by decide +kernel
theorem dX4_learnSpell_49 : decode cX4_learnSpell 49 = .ok (.aload_n 1, 1) := by decide +kernel
theorem dX4_learnSpell_50 : decode cX4_learnSpell 50 = .ok (.iload_n 2, 1) := by decide +kernel
theorem dX4_learnSpell_51 : decode cX4_learnSpell 51 = .ok (.invokevirtual 103, 3) := by decide +kernel
theorem dX4_learnSpell_54 : decode cX4_learnSpell 54 = .ok (.istore_n 3, 1) := by decide +kernel
theorem dX4_learnSpell_55 : decode cX4_learnSpell 55 = .ok (.aload_n 0, 1) := by decide +kernel
theorem dX4_learnSpell_56 : decode cX4_learnSpell 56 = .ok (.getfield 24, 3) := by decide +kernel
theorem dX4_learnSpell_59 : decode cX4_learnSpell 59 = .ok (.iload_n 2, 1) := by decide +kernel
theorem dX4_learnSpell_60 : decode cX4_learnSpell 60 = .ok (.iload_n 3, 1) := by decide +kernel
theorem dX4_learnSpell_61 : decode cX4_learnSpell 61 = .ok (.iconst (-1), 1) := by decide +kernel
theorem dX4_learnSpell_62 : decode cX4_learnSpell 62 = .ok (.if_icmp .ne 7, 3) := by decide +kernel
theorem dX4_learnSpell_65 : decode cX4_learnSpell 65 = .ok (.iconst 0, 1) := by decide +kernel
theorem dX4_learnSpell_66 : decode cX4_learnSpell 66 = .ok (.goto 6, 3) := by decide +kernel
theorem dX4_learnSpell_69 : decode cX4_learnSpell 69 = .ok (.iconst 1, 1) := by decide +kernel
theorem dX4_learnSpell_70 : decode cX4_learnSpell 70 = .ok (.iload_n 3, 1) := by decide +kernel
theorem dX4_learnSpell_71 : decode cX4_learnSpell 71 = .ok (.ishl, 1) := by decide +kernel
theorem dX4_learnSpell_72 : decode cX4_learnSpell 72 = .ok (.iastore, 1) := by decide +kernel
theorem dX4_learnSpell_73 : decode cX4_learnSpell 73 = .ok (.iconst 0, 1) := by decide +kernel
theorem dX4_learnSpell_74 : decode cX4_learnSpell 74 = .ok (.istore 4, 2) := by decide +kernel
theorem dX4_learnSpell_76 : decode cX4_learnSpell 76 = .ok (.iload 4, 2) := by decide +kernel
theorem dX4_learnSpell_78 : decode cX4_learnSpell 78 = .ok (.iconst 3, 1) := by decide +kernel
theorem dX4_learnSpell_79 : decode cX4_learnSpell 79 = .ok (.if_icmp .ge 119, 3) := by decide +kernel
theorem dX4_learnSpell_82 : decode cX4_learnSpell 82 = .ok (.iload 4, 2) := by decide +kernel
theorem dX4_learnSpell_84 : decode cX4_learnSpell 84 = .ok (.aload_n 1, 1) := by decide +kernel
theorem dX4_learnSpell_85 : decode cX4_learnSpell 85 = .ok (.iload_n 2, 1) := by decide +kernel
theorem dX4_learnSpell_86 : decode cX4_learnSpell 86 = .ok (.invokevirtual 106, 3) := by decide +kernel
theorem dX4_learnSpell_89 : decode cX4_learnSpell 89 = .ok (.if_icmp .ge 109, 3) := by decide +kernel
theorem dX4_learnSpell_92 : decode cX4_learnSpell 92 = .ok (.aload_n 1, 1) := by decide +kernel
theorem dX4_learnSpell_93 : decode cX4_learnSpell 93 = .ok (.iload_n 2, 1) := by decide +kernel
theorem dX4_learnSpell_94 : decode cX4_learnSpell 94 = .ok (.iload 4, 2) := by decide +kernel
theorem dX4_learnSpell_96 : decode cX4_learnSpell 96 = .ok (.invokevirtual 109, 3) := by decide +kernel
theorem dX4_learnSpell_99 : decode cX4_learnSpell 99 = .ok (.istore 5, 2) := by decide +kernel
theorem dX4_learnSpell_101 : decode cX4_learnSpell 101 = .ok (.aload_n 1, 1) := by decide +kernel
theorem dX4_learnSpell_102 : decode cX4_learnSpell 102 = .ok (.iload_n 2, 1) := by decide +kernel
theorem dX4_learnSpell_103 : decode cX4_learnSpell 103 = .ok (.iload 4, 2) := by decide +kernel
theorem dX4_learnSpell_105 : decode cX4_learnSpell 105 = .ok (.invokevirtual 112, 3) := by decide +kernel
theorem dX4_learnSpell_108 : decode cX4_learnSpell 108 = .ok (.istore 6, 2) := by decide +kernel
theorem dX4_learnSpell_110 : decode cX4_learnSpell 110 = .ok (.iload 5, 2) := by decide +kernel
theorem dX4_learnSpell_112 : decode cX4_learnSpell 112 = .ok (.ifCond .ne 34, 3) := by decide +kernel
theorem dX4_learnSpell_115 : decode cX4_learnSpell 115 = .ok (.aload_n 0, 1) := by decide +kernel
theorem dX4_learnSpell_116 : decode cX4_learnSpell 116 = .ok (.iload_n 2, 1) := by decide +kernel
theorem dX4_learnSpell_117 : decode cX4_learnSpell 117 = .ok (.aload_n 1, 1) := by decide +kernel
theorem dX4_learnSpell_118 : decode cX4_learnSpell 118 = .ok (.iload_n 2, 1) := by decide +kernel
theorem dX4_learnSpell_119 : decode cX4_learnSpell 119 = .ok (.invokevirtual 92, 3) := by decide +kernel
theorem dX4_learnSpell_122 : decode cX4_learnSpell 122 = .ok (.iconst 3, 1) := by decide +kernel
theorem dX4_learnSpell_123 : decode cX4_learnSpell 123 = .ok (.if_icmp .ne 7, 3) := by decide +kernel
theorem dX4_learnSpell_126 : decode cX4_learnSpell 126 = .ok (.iconst (-1), 1) := by decide +kernel
theorem dX4_learnSpell_127 : decode cX4_learnSpell 127 = .ok (.goto 13, 3) := by decide +kernel
theorem dX4_learnSpell_130 : decode cX4_learnSpell 130 = .ok (.iload 6, 2) := by decide +kernel
theorem dX4_learnSpell_132 : decode cX4_learnSpell 132 = .ok (.aload_n 1, 1) := by decide +kernel
theorem dX4_learnSpell_133 : decode cX4_learnSpell 133 = .ok (.iload_n 2, 1) := by decide +kernel
theorem dX4_learnSpell_134 : decode cX4_learnSpell 134 = .ok (.invokevirtual 96, 3) := by decide +kernel
theorem dX4_learnSpell_137 : decode cX4_learnSpell 137 = .ok (.invokestatic 115, 3) := by decide +kernel
theorem dX4_learnSpell_140 : decode cX4_learnSpell 140 = .ok (.invokevirtual 118, 3) := by decide +kernel
theorem dX4_learnSpell_143 : decode cX4_learnSpell 143 = .ok (.goto 49, 3) := by decide +kernel
theorem dX4_learnSpell_146 : decode cX4_learnSpell 146 = .ok (.iload 5, 2) := by decide +kernel
theorem dX4_learnSpell_148 : decode cX4_learnSpell 148 = .ok (.bipush 7, 2) := by decide +kernel
theorem dX4_learnSpell_150 : decode cX4_learnSpell 150 = .ok (.if_icmp .ne 23, 3) := by decide +kernel
theorem dX4_learnSpell_153 : decode cX4_learnSpell 153 = .ok (.aload_n 0, 1) := by decide +kernel
theorem dX4_learnSpell_154 : decode cX4_learnSpell 154 = .ok (.getfield 18, 3) := by decide +kernel
theorem dX4_learnSpell_157 : decode cX4_learnSpell 157 = .ok (.iload_n 2, 1) := by decide +kernel
theorem dX4_learnSpell_158 : decode cX4_learnSpell 158 = .ok (.aload_n 0, 1) := by decide +kernel
theorem dX4_learnSpell_159 : decode cX4_learnSpell 159 = .ok (.getfield 18, 3) := by decide +kernel
theorem dX4_learnSpell_162 : decode cX4_learnSpell 162 = .ok (.iload_n 2, 1) := by decide +kernel
theorem dX4_learnSpell_163 : decode cX4_learnSpell 163 = .ok (.iaload, 1) := by decide +kernel
theorem dX4_learnSpell_164 : decode cX4_learnSpell 164 = .ok (.iload 6, 2) := by decide +kernel
theorem dX4_learnSpell_166 : decode cX4_learnSpell 166 = .ok (.invokestatic 124, 3) := by decide +kernel
theorem dX4_learnSpell_169 : decode cX4_learnSpell 169 = .ok (.iastore, 1) := by decide +kernel
theorem dX4_learnSpell_170 : decode cX4_learnSpell 170 = .ok (.goto 22, 3) := by decide +kernel
theorem dX4_learnSpell_173 : decode cX4_learnSpell 173 = .ok (.aload_n 0, 1) := by decide +kernel
theorem dX4_learnSpell_174 : decode cX4_learnSpell 174 = .ok (.iload_n 2, 1) := by decide +kernel
theorem dX4_learnSpell_175 : decode cX4_learnSpell 175 = .ok (.iload 5, 2) := by decide +kernel
theorem dX4_learnSpell_177 : decode cX4_learnSpell 177 = .ok (.iload 6, 2) := by decide +kernel
theorem dX4_learnSpell_179 : decode cX4_learnSpell 179 = .ok (.invokestatic 127, 3) := by decide +kernel
theorem dX4_learnSpell_182 : decode cX4_learnSpell 182 = .ok (.iload 5, 2) := by decide +kernel
theorem dX4_learnSpell_184 : decode cX4_learnSpell 184 = .ok (.iload 6, 2) := by decide +kernel
theorem dX4_learnSpell_186 : decode cX4_learnSpell 186 = .ok (.invokestatic 130, 3) := by decide +kernel
theorem dX4_learnSpell_189 : decode cX4_learnSpell 189 = .ok (.invokevirtual 133, 3) := by decide +kernel
theorem dX4_learnSpell_192 : decode cX4_learnSpell 192 = .ok (.iinc 4 1, 3) := by decide +kernel
theorem dX4_learnSpell_195 : decode cX4_learnSpell 195 = .ok (.goto (-119), 3) := by decide +kernel
theorem dX4_learnSpell_198 : decode cX4_learnSpell 198 = .ok (.return_, 1) := by decide +kernel
theorem dX4_cursesOn_0 : decode cX4_cursesOn 0 = .ok (.iload_n 1, 1) := by decide +kernel
theorem dX4_cursesOn_1 : decode cX4_cursesOn 1 = .ok (.iload_n 2, 1) := by decide +kernel
theorem dX4_cursesOn_2 : decode cX4_cursesOn 2 = .ok (.invokestatic 99, 3) := by decide +kernel
theorem dX4_cursesOn_5 : decode cX4_cursesOn 5 = .ok (.ifCond .eq 16, 3) := by decide +kernel
theorem dX4_cursesOn_8 : decode cX4_cursesOn 8 = .ok (.aload_n 0, 1) := by decide +kernel
theorem dX4_cursesOn_9 : decode cX4_cursesOn 9 = .ok (.getfield 32, 3) := by decide +kernel
theorem dX4_cursesOn_12 : decode cX4_cursesOn 12 = .ok (.iload_n 2, 1) := by decide +kernel
theorem dX4_cursesOn_13 : decode cX4_cursesOn 13 = .ok (.iconst 3, 1) := by decide +kernel
theorem dX4_cursesOn_14 : decode cX4_cursesOn 14 = .ok (.imul, 1) := by decide +kernel
theorem dX4_cursesOn_15 : decode cX4_cursesOn 15 = .ok (.iload_n 1, 1) := by decide +kernel
theorem dX4_cursesOn_16 : decode cX4_cursesOn 16 = .ok (.iadd, 1) := by decide +kernel
theorem dX4_cursesOn_17 : decode cX4_cursesOn 17 = .ok (.iaload, 1) := by decide +kernel
theorem dX4_cursesOn_18 : decode cX4_cursesOn 18 = .ok (.goto 4, 3) := by decide +kernel
theorem dX4_cursesOn_21 : decode cX4_cursesOn 21 = .ok (.iconst 0, 1) := by decide +kernel
theorem dX4_cursesOn_22 : decode cX4_cursesOn 22 = .ok (.ireturn, 1) := by decide +kernel
theorem dX4_addDeed_0 : decode cX4_addDeed 0 = .ok (.aload_n 0, 1) := by decide +kernel
theorem dX4_addDeed_1 : decode cX4_addDeed 1 = .ok (.getfield 137, 3) := by decide +kernel
theorem dX4_addDeed_4 : decode cX4_addDeed 4 = .ok (.ifCond .lt 12, 3) := by decide +kernel
theorem dX4_addDeed_7 : decode cX4_addDeed 7 = .ok (.aload_n 0, 1) := by decide +kernel
theorem dX4_addDeed_8 : decode cX4_addDeed 8 = .ok (.getfield 137, 3) := by decide +kernel
theorem dX4_addDeed_11 : decode cX4_addDeed 11 = .ok (.bipush 19, 2) := by decide +kernel
theorem dX4_addDeed_13 : decode cX4_addDeed 13 = .ok (.if_icmp .lt 4, 3) := by decide +kernel
theorem dX4_addDeed_16 : decode cX4_addDeed 16 = .ok (.return_, 1) := by decide +kernel
theorem dX4_addDeed_17 : decode cX4_addDeed 17 = .ok (.aload_n 0, 1) := by decide +kernel
theorem dX4_addDeed_18 : decode cX4_addDeed 18 = .ok (.getfield 37, 3) := by decide +kernel
theorem dX4_addDeed_21 : decode cX4_addDeed 21 = .ok (.aload_n 0, 1) := by decide +kernel
theorem dX4_addDeed_22 : decode cX4_addDeed 22 = .ok (.getfield 137, 3) := by decide +kernel
theorem dX4_addDeed_25 : decode cX4_addDeed 25 = .ok (.iload_n 1, 1) := by decide +kernel
theorem dX4_addDeed_26 : decode cX4_addDeed 26 = .ok (.iastore, 1) := by decide +kernel
theorem dX4_addDeed_27 : decode cX4_addDeed 27 = .ok (.aload_n 0, 1) := by decide +kernel
theorem dX4_addDeed_28 : decode cX4_addDeed 28 = .ok (.getfield 40, 3) := by decide +kernel
theorem dX4_addDeed_31 : decode cX4_addDeed 31 = .ok (.aload_n 0, 1) := by decide +kernel
theorem dX4_addDeed_32 : decode cX4_addDeed 32 = .ok (.getfield 137, 3) := by decide +kernel
theorem dX4_addDeed_35 : decode cX4_addDeed 35 = .ok (.iload_n 2, 1) := by decide +kernel
theorem dX4_addDeed_36 : decode cX4_addDeed 36 = .ok (.iastore, 1) := by decide +kernel
theorem dX4_addDeed_37 : decode cX4_addDeed 37 = .ok (.aload_n 0, 1) := by decide +kernel
theorem dX4_addDeed_38 : decode cX4_addDeed 38 = .ok (.getfield 43, 3) := by decide +kernel
theorem dX4_addDeed_41 : decode cX4_addDeed 41 = .ok (.aload_n 0, 1) := by decide +kernel
theorem dX4_addDeed_42 : decode cX4_addDeed 42 = .ok (.getfield 137, 3) := by decide +kernel
theorem dX4_addDeed_45 : decode cX4_addDeed 45 = .ok (.iload_n 3, 1) := by decide +kernel
theorem dX4_addDeed_46 : decode cX4_addDeed 46 = .ok (.iastore, 1) := by decide +kernel
theorem dX4_addDeed_47 : decode cX4_addDeed 47 = .ok (.aload_n 0, 1) := by decide +kernel
theorem dX4_addDeed_48 : decode cX4_addDeed 48 = .ok (.getfield 46, 3) := by decide +kernel
theorem dX4_addDeed_51 : decode cX4_addDeed 51 = .ok (.aload_n 0, 1) := by decide +kernel
theorem dX4_addDeed_52 : decode cX4_addDeed 52 = .ok (.getfield 137, 3) := by decide +kernel
theorem dX4_addDeed_55 : decode cX4_addDeed 55 = .ok (.iload 4, 2) := by decide +kernel
theorem dX4_addDeed_57 : decode cX4_addDeed 57 = .ok (.iastore, 1) := by decide +kernel
theorem dX4_addDeed_58 : decode cX4_addDeed 58 = .ok (.aload_n 0, 1) := by decide +kernel
theorem dX4_addDeed_59 : decode cX4_addDeed 59 = .ok (.getfield 49, 3) := by decide +kernel
theorem dX4_addDeed_62 : decode cX4_addDeed 62 = .ok (.aload_n 0, 1) := by decide +kernel
theorem dX4_addDeed_63 : decode cX4_addDeed 63 = .ok (.getfield 137, 3) := by decide +kernel
theorem dX4_addDeed_66 : decode cX4_addDeed 66 = .ok (.iload 5, 2) := by decide +kernel
theorem dX4_addDeed_68 : decode cX4_addDeed 68 = .ok (.iastore, 1) := by decide +kernel
theorem dX4_addDeed_69 : decode cX4_addDeed 69 = .ok (.aload_n 0, 1) := by decide +kernel
theorem dX4_addDeed_70 : decode cX4_addDeed 70 = .ok (.getfield 52, 3) := by decide +kernel
theorem dX4_addDeed_73 : decode cX4_addDeed 73 = .ok (.aload_n 0, 1) := by decide +kernel
theorem dX4_addDeed_74 : decode cX4_addDeed 74 = .ok (.getfield 137, 3) := by decide +kernel
theorem dX4_addDeed_77 : decode cX4_addDeed 77 = .ok (.iload_n 2, 1) := by decide +kernel
theorem dX4_addDeed_78 : decode cX4_addDeed 78 = .ok (.ifCond .ne 11, 3) := by decide +kernel
theorem dX4_addDeed_81 : decode cX4_addDeed 81 = .ok (.iload_n 1, 1) := by decide +kernel
theorem dX4_addDeed_82 : decode cX4_addDeed 82 = .ok (.iload_n 3, 1) := by decide +kernel
theorem dX4_addDeed_83 : decode cX4_addDeed 83 = .ok (.invokestatic 115, 3) := by decide +kernel
theorem dX4_addDeed_86 : decode cX4_addDeed 86 = .ok (.goto 4, 3) := by decide +kernel
theorem dX4_addDeed_89 : decode cX4_addDeed 89 = .ok (.iconst 0, 1) := by decide +kernel
theorem dX4_addDeed_90 : decode cX4_addDeed 90 = .ok (.iastore, 1) := by decide +kernel
theorem dX4_addDeed_91 : decode cX4_addDeed 91 = .ok (.aload_n 0, 1) := by decide +kernel
theorem dX4_addDeed_92 : decode cX4_addDeed 92 = .ok (.dup, 1) := by decide +kernel
theorem dX4_addDeed_93 : decode cX4_addDeed 93 = .ok (.getfield 137, 3) := by decide +kernel
theorem dX4_addDeed_96 : decode cX4_addDeed 96 = .ok (.iconst 1, 1) := by decide +kernel
theorem dX4_addDeed_97 : decode cX4_addDeed 97 = .ok (.iadd, 1) := by decide +kernel
theorem dX4_addDeed_98 : decode cX4_addDeed 98 = .ok (.putfield 137, 3) := by decide +kernel
theorem dX4_addDeed_101 : decode cX4_addDeed 101 = .ok (.return_, 1) := by decide +kernel
theorem dX4_learnDeeds_0 : decode cX4_learnDeeds 0 = .ok (.aload_n 0, 1) := by decide +kernel
theorem dX4_learnDeeds_1 : decode cX4_learnDeeds 1 = .ok (.iconst 0, 1) := by decide +kernel
theorem dX4_learnDeeds_2 : decode cX4_learnDeeds 2 = .ok (.putfield 137, 3) := by decide +kernel
theorem dX4_learnDeeds_5 : decode cX4_learnDeeds 5 = .ok (.iconst 0, 1) := by decide +kernel
theorem dX4_learnDeeds_6 : decode cX4_learnDeeds 6 = .ok (.istore_n 1, 1) := by decide +kernel
theorem dX4_learnDeeds_7 : decode cX4_learnDeeds 7 = .ok (.iload_n 1, 1) := by decide +kernel
theorem dX4_learnDeeds_8 : decode cX4_learnDeeds 8 = .ok (.aload_n 0, 1) := by decide +kernel
theorem dX4_learnDeeds_9 : decode cX4_learnDeeds 9 = .ok (.getfield 61, 3) := by decide +kernel
theorem dX4_learnDeeds_12 : decode cX4_learnDeeds 12 = .ok (.if_icmp .ge 136, 3) := by decide +kernel
theorem dX4_learnDeeds_15 : decode cX4_learnDeeds 15 = .ok (.iload_n 1, 1) := by decide +kernel
theorem dX4_learnDeeds_16 : decode cX4_learnDeeds 16 = .ok (.iconst 3, 1) := by decide +kernel
theorem dX4_learnDeeds_17 : decode cX4_learnDeeds 17 = .ok (.if_icmp .ge 131, 3) := by decide +kernel
theorem dX4_learnDeeds_20 : decode cX4_learnDeeds 20 = .ok (.aload_n 0, 1) := by decide +kernel
theorem dX4_learnDeeds_21 : decode cX4_learnDeeds 21 = .ok (.iload_n 1, 1) := by decide +kernel
theorem dX4_learnDeeds_22 : decode cX4_learnDeeds 22 = .ok (.iconst 0, 1) := by decide +kernel
theorem dX4_learnDeeds_23 : decode cX4_learnDeeds 23 = .ok (.invokevirtual 140, 3) := by decide +kernel
theorem dX4_learnDeeds_26 : decode cX4_learnDeeds 26 = .ok (.istore_n 2, 1) := by decide +kernel
theorem dX4_learnDeeds_27 : decode cX4_learnDeeds 27 = .ok (.iconst 0, 1) := by decide +kernel
theorem dX4_learnDeeds_28 : decode cX4_learnDeeds 28 = .ok (.istore_n 3, 1) := by decide +kernel
theorem dX4_learnDeeds_29 : decode cX4_learnDeeds 29 = .ok (.iload_n 3, 1) := by decide +kernel
theorem dX4_learnDeeds_30 : decode cX4_learnDeeds 30 = .ok (.aload_n 0, 1) := by decide +kernel
theorem dX4_learnDeeds_31 : decode cX4_learnDeeds 31 = .ok (.getfield 61, 3) := by decide +kernel
theorem dX4_learnDeeds_34 : decode cX4_learnDeeds 34 = .ok (.if_icmp .ge 28, 3) := by decide +kernel
theorem dX4_learnDeeds_37 : decode cX4_learnDeeds 37 = .ok (.iload_n 3, 1) := by decide +kernel
theorem dX4_learnDeeds_38 : decode cX4_learnDeeds 38 = .ok (.iconst 3, 1) := by decide +kernel
theorem dX4_learnDeeds_39 : decode cX4_learnDeeds 39 = .ok (.if_icmp .ge 23, 3) := by decide +kernel
theorem dX4_learnDeeds_42 : decode cX4_learnDeeds 42 = .ok (.iload_n 3, 1) := by decide +kernel
theorem dX4_learnDeeds_43 : decode cX4_learnDeeds 43 = .ok (.iload_n 1, 1) := by decide +kernel
theorem dX4_learnDeeds_44 : decode cX4_learnDeeds 44 = .ok (.if_icmp .eq 12, 3) := by decide +kernel
theorem dX4_learnDeeds_47 : decode cX4_learnDeeds 47 = .ok (.aload_n 0, 1) := by decide +kernel
theorem dX4_learnDeeds_48 : decode cX4_learnDeeds 48 = .ok (.iload_n 1, 1) := by decide +kernel
theorem dX4_learnDeeds_49 : decode cX4_learnDeeds 49 = .ok (.iconst 0, 1) := by decide +kernel
theorem dX4_learnDeeds_50 : decode cX4_learnDeeds 50 = .ok (.iload_n 3, 1) := by decide +kernel
theorem dX4_learnDeeds_51 : decode cX4_learnDeeds 51 = .ok (.iload_n 2, 1) := by decide +kernel
theorem dX4_learnDeeds_52 : decode cX4_learnDeeds 52 = .ok (.iconst 0, 1) := by decide +kernel
theorem dX4_learnDeeds_53 : decode cX4_learnDeeds 53 = .ok (.invokevirtual 143, 3) := by decide +kernel
theorem dX4_learnDeeds_56 : decode cX4_learnDeeds 56 = .ok (.iinc 3 1, 3) := by decide +kernel
theorem dX4_learnDeeds_59 : decode cX4_learnDeeds 59 = .ok (.goto (-30), 3) := by decide +kernel
theorem dX4_learnDeeds_62 : decode cX4_learnDeeds 62 = .ok (.iconst 1, 1) := by decide +kernel
theorem dX4_learnDeeds_63 : decode cX4_learnDeeds 63 = .ok (.bipush 7, 2) := by decide +kernel
theorem dX4_learnDeeds_65 : decode cX4_learnDeeds 65 = .ok (.iload_n 1, 1) := by decide +kernel
theorem dX4_learnDeeds_66 : decode cX4_learnDeeds 66 = .ok (.iadd, 1) := by decide +kernel
theorem dX4_learnDeeds_67 : decode cX4_learnDeeds 67 = .ok (.ishl, 1) := by decide +kernel
theorem dX4_learnDeeds_68 : decode cX4_learnDeeds 68 = .ok (.istore_n 3, 1) := by decide +kernel
theorem dX4_learnDeeds_69 : decode cX4_learnDeeds 69 = .ok (.aload_n 0, 1) := by decide +kernel
theorem dX4_learnDeeds_70 : decode cX4_learnDeeds 70 = .ok (.iload_n 1, 1) := by decide +kernel
theorem dX4_learnDeeds_71 : decode cX4_learnDeeds 71 = .ok (.iconst 1, 1) := by decide +kernel
theorem dX4_learnDeeds_72 : decode cX4_learnDeeds 72 = .ok (.iconst 0, 1) := by decide +kernel
theorem dX4_learnDeeds_73 : decode cX4_learnDeeds 73 = .ok (.iload_n 2, 1) := by decide +kernel
theorem dX4_learnDeeds_74 : decode cX4_learnDeeds 74 = .ok (.iload_n 3, 1) := by decide +kernel
theorem dX4_learnDeeds_75 : decode cX4_learnDeeds 75 = .ok (.ior, 1) := by decide +kernel
theorem dX4_learnDeeds_76 : decode cX4_learnDeeds 76 = .ok (.iload_n 3, 1) := by decide +kernel
theorem dX4_learnDeeds_77 : decode cX4_learnDeeds 77 = .ok (.invokevirtual 143, 3) := by decide +kernel
theorem dX4_learnDeeds_80 : decode cX4_learnDeeds 80 = .ok (.iconst 0, 1) := by decide +kernel
theorem dX4_learnDeeds_81 : decode cX4_learnDeeds 81 = .ok (.istore 4, 2) := by decide +kernel
theorem dX4_learnDeeds_83 : decode cX4_learnDeeds 83 = .ok (.iload 4, 2) := by decide +kernel
theorem dX4_learnDeeds_85 : decode cX4_learnDeeds 85 = .ok (.iconst 2, 1) := by decide +kernel
theorem dX4_learnDeeds_86 : decode cX4_learnDeeds 86 = .ok (.if_icmp .ge 38, 3) := by decide +kernel
theorem dX4_learnDeeds_89 : decode cX4_learnDeeds 89 = .ok (.iconst 1, 1) := by decide +kernel
theorem dX4_learnDeeds_90 : decode cX4_learnDeeds 90 = .ok (.iconst 5, 1) := by decide +kernel
theorem dX4_learnDeeds_91 : decode cX4_learnDeeds 91 = .ok (.iload 4, 2) := by decide +kernel
theorem dX4_learnDeeds_93 : decode cX4_learnDeeds 93 = .ok (.iadd, 1) := by decide +kernel
theorem dX4_learnDeeds_94 : decode cX4_learnDeeds 94 = .ok (.ishl, 1) := by decide +kernel
theorem dX4_learnDeeds_95 : decode cX4_learnDeeds 95 = .ok (.istore 5, 2) := by decide +kernel
theorem dX4_learnDeeds_97 : decode cX4_learnDeeds 97 = .ok (.aload_n 0, 1) := by decide +kernel
theorem dX4_learnDeeds_98 : decode cX4_learnDeeds 98 = .ok (.iload_n 1, 1) := by decide +kernel
theorem dX4_learnDeeds_99 : decode cX4_learnDeeds 99 = .ok (.iconst 2, 1) := by decide +kernel
theorem dX4_learnDeeds_100 : decode cX4_learnDeeds 100 = .ok (.iload 4, 2) := by decide +kernel
theorem dX4_learnDeeds_102 : decode cX4_learnDeeds 102 = .ok (.iload_n 2, 1) := by decide +kernel
theorem dX4_learnDeeds_103 : decode cX4_learnDeeds 103 = .ok (.aload_n 0, 1) := by decide +kernel
theorem dX4_learnDeeds_104 : decode cX4_learnDeeds 104 = .ok (.iload_n 1, 1) := by decide +kernel
theorem dX4_learnDeeds_105 : decode cX4_learnDeeds 105 = .ok (.iconst 1, 1) := by decide +kernel
theorem dX4_learnDeeds_106 : decode cX4_learnDeeds 106 = .ok (.invokevirtual 140, 3) := by decide +kernel
theorem dX4_learnDeeds_109 : decode cX4_learnDeeds 109 = .ok (.ior, 1) := by decide +kernel
theorem dX4_learnDeeds_110 : decode cX4_learnDeeds 110 = .ok (.iload 5, 2) := by decide +kernel
theorem dX4_learnDeeds_112 : decode cX4_learnDeeds 112 = .ok (.ior, 1) := by decide +kernel
theorem dX4_learnDeeds_113 : decode cX4_learnDeeds 113 = .ok (.iload 5, 2) := by decide +kernel
theorem dX4_learnDeeds_115 : decode cX4_learnDeeds 115 = .ok (.invokevirtual 143, 3) := by decide +kernel
theorem dX4_learnDeeds_118 : decode cX4_learnDeeds 118 = .ok (.iinc 4 1, 3) := by decide +kernel
theorem dX4_learnDeeds_121 : decode cX4_learnDeeds 121 = .ok (.goto (-38), 3) := by decide +kernel
theorem dX4_learnDeeds_124 : decode cX4_learnDeeds 124 = .ok (.aload_n 0, 1) := by decide +kernel
theorem dX4_learnDeeds_125 : decode cX4_learnDeeds 125 = .ok (.iload_n 1, 1) := by decide +kernel
theorem dX4_learnDeeds_126 : decode cX4_learnDeeds 126 = .ok (.iconst 3, 1) := by decide +kernel
theorem dX4_learnDeeds_127 : decode cX4_learnDeeds 127 = .ok (.iconst 0, 1) := by decide +kernel
theorem dX4_learnDeeds_128 : decode cX4_learnDeeds 128 = .ok (.iload_n 2, 1) := by decide +kernel
theorem dX4_learnDeeds_129 : decode cX4_learnDeeds 129 = .ok (.aload_n 0, 1) := by decide +kernel
theorem dX4_learnDeeds_130 : decode cX4_learnDeeds 130 = .ok (.iload_n 1, 1) := by decide +kernel
theorem dX4_learnDeeds_131 : decode cX4_learnDeeds 131 = .ok (.iconst 2, 1) := by decide +kernel
theorem dX4_learnDeeds_132 : decode cX4_learnDeeds 132 = .ok (.invokevirtual 140, 3) := by decide +kernel
theorem dX4_learnDeeds_135 : decode cX4_learnDeeds 135 = .ok (.ior, 1) := by decide +kernel
theorem dX4_learnDeeds_136 : decode cX4_learnDeeds 136 = .ok (.sipush 1024, 3) := by decide +kernel
theorem dX4_learnDeeds_139 : decode cX4_learnDeeds 139 = .ok (.invokevirtual 143, 3) := by decide +kernel
theorem dX4_learnDeeds_142 : decode cX4_learnDeeds 142 = .ok (.iinc 1 1, 3) := by decide +kernel
theorem dX4_learnDeeds_145 : decode cX4_learnDeeds 145 = .ok (.goto (-138), 3) := by decide +kernel
theorem dX4_learnDeeds_148 : decode cX4_learnDeeds 148 = .ok (.aload_n 0, 1) := by decide +kernel
theorem dX4_learnDeeds_149 : decode cX4_learnDeeds 149 = .ok (.iconst (-1), 1) := by decide +kernel
theorem dX4_learnDeeds_150 : decode cX4_learnDeeds 150 = .ok (.iconst 4, 1) := by decide +kernel
theorem dX4_learnDeeds_151 : decode cX4_learnDeeds 151 = .ok (.iconst 0, 1) := by decide +kernel
theorem dX4_learnDeeds_152 : decode cX4_learnDeeds 152 = .ok (.iconst 0, 1) := by decide +kernel
theorem dX4_learnDeeds_153 : decode cX4_learnDeeds 153 = .ok (.iconst 0, 1) := by decide +kernel
theorem dX4_learnDeeds_154 : decode cX4_learnDeeds 154 = .ok (.invokevirtual 143, 3) := by decide +kernel
theorem dX4_learnDeeds_157 : decode cX4_learnDeeds 157 = .ok (.return_, 1) := by decide +kernel
theorem dX4_learn_0 : decode cX4_learn 0 = .ok (.aload_n 0, 1) := by decide +kernel
theorem dX4_learn_1 : decode cX4_learn 1 = .ok (.aload_n 1, 1) := by decide +kernel
theorem dX4_learn_2 : decode cX4_learn 2 = .ok (.invokevirtual 55, 3) := by decide +kernel
theorem dX4_learn_5 : decode cX4_learn 5 = .ok (.putfield 61, 3) := by decide +kernel
theorem dX4_learn_8 : decode cX4_learn 8 = .ok (.aload_n 0, 1) := by decide +kernel
theorem dX4_learn_9 : decode cX4_learn 9 = .ok (.aload_n 1, 1) := by decide +kernel
theorem dX4_learn_10 : decode cX4_learn 10 = .ok (.invokevirtual 64, 3) := by decide +kernel
theorem dX4_learn_13 : decode cX4_learn 13 = .ok (.iconst 5, 1) := by decide +kernel
theorem dX4_learn_14 : decode cX4_learn 14 = .ok (.invokestatic 67, 3) := by decide +kernel
theorem dX4_learn_17 : decode cX4_learn 17 = .ok (.putfield 73, 3) := by decide +kernel
theorem dX4_learn_20 : decode cX4_learn 20 = .ok (.aload_n 0, 1) := by decide +kernel
theorem dX4_learn_21 : decode cX4_learn 21 = .ok (.aload_n 1, 1) := by decide +kernel
theorem dX4_learn_22 : decode cX4_learn 22 = .ok (.invokevirtual 75, 3) := by decide +kernel
theorem dX4_learn_25 : decode cX4_learn 25 = .ok (.iconst 0, 1) := by decide +kernel
theorem dX4_learn_26 : decode cX4_learn 26 = .ok (.istore_n 2, 1) := by decide +kernel
theorem dX4_learn_27 : decode cX4_learn 27 = .ok (.iload_n 2, 1) := by decide +kernel
theorem dX4_learn_28 : decode cX4_learn 28 = .ok (.aload_n 0, 1) := by decide +kernel
theorem dX4_learn_29 : decode cX4_learn 29 = .ok (.getfield 73, 3) := by decide +kernel
theorem dX4_learn_32 : decode cX4_learn 32 = .ok (.if_icmp .ge 20, 3) := by decide +kernel
theorem dX4_learn_35 : decode cX4_learn 35 = .ok (.iload_n 2, 1) := by decide +kernel
theorem dX4_learn_36 : decode cX4_learn 36 = .ok (.iconst 5, 1) := by decide +kernel
theorem dX4_learn_37 : decode cX4_learn 37 = .ok (.if_icmp .ge 15, 3) := by decide +kernel
theorem dX4_learn_40 : decode cX4_learn 40 = .ok (.aload_n 0, 1) := by decide +kernel
theorem dX4_learn_41 : decode cX4_learn 41 = .ok (.aload_n 1, 1) := by decide +kernel
theorem dX4_learn_42 : decode cX4_learn 42 = .ok (.iload_n 2, 1) := by decide +kernel
theorem dX4_learn_43 : decode cX4_learn 43 = .ok (.invokevirtual 79, 3) := by decide +kernel
theorem dX4_learn_46 : decode cX4_learn 46 = .ok (.iinc 2 1, 3) := by decide +kernel
theorem dX4_learn_49 : decode cX4_learn 49 = .ok (.goto (-22), 3) := by decide +kernel
theorem dX4_learn_52 : decode cX4_learn 52 = .ok (.aload_n 0, 1) := by decide +kernel
theorem dX4_learn_53 : decode cX4_learn 53 = .ok (.invokevirtual 83, 3) := by decide +kernel
theorem dX4_learn_56 : decode cX4_learn 56 = .ok (.return_, 1) := by decide +kernel
theorem dX5_stale_0 : decode cX5_stale 0 = .ok (.aload_n 0, 1) := by decide +kernel
theorem dX5_stale_1 : decode cX5_stale 1 = .ok (.iconst (-1), 1) := by decide +kernel
theorem dX5_stale_2 : decode cX5_stale 2 = .ok (.putfield 20, 3) := by decide +kernel
theorem dX5_stale_5 : decode cX5_stale 5 = .ok (.return_, 1) := by decide +kernel
theorem dX8_firstState_0 : decode cX8_firstState 0 = .ok (.iconst 1, 1) := by decide +kernel
theorem dX8_firstState_1 : decode cX8_firstState 1 = .ok (.aload_n 0, 1) := by decide +kernel
theorem dX8_firstState_2 : decode cX8_firstState 2 = .ok (.getfield 34, 3) := by decide +kernel
theorem dX8_firstState_5 : decode cX8_firstState 5 = .ok (.ishl, 1) := by decide +kernel
theorem dX8_firstState_6 : decode cX8_firstState 6 = .ok (.iconst 1, 1) := by decide +kernel
theorem dX8_firstState_7 : decode cX8_firstState 7 = .ok (.isub, 1) := by decide +kernel
theorem dX8_firstState_8 : decode cX8_firstState 8 = .ok (.aload_n 0, 1) := by decide +kernel
theorem dX8_firstState_9 : decode cX8_firstState 9 = .ok (.getfield 40, 3) := by decide +kernel
theorem dX8_firstState_12 : decode cX8_firstState 12 = .ok (.iconst 5, 1) := by decide +kernel
theorem dX8_firstState_13 : decode cX8_firstState 13 = .ok (.ishl, 1) := by decide +kernel
theorem dX8_firstState_14 : decode cX8_firstState 14 = .ok (.ior, 1) := by decide +kernel
theorem dX8_firstState_15 : decode cX8_firstState 15 = .ok (.aload_n 0, 1) := by decide +kernel
theorem dX8_firstState_16 : decode cX8_firstState 16 = .ok (.getfield 37, 3) := by decide +kernel
theorem dX8_firstState_19 : decode cX8_firstState 19 = .ok (.bipush 13, 2) := by decide +kernel
theorem dX8_firstState_21 : decode cX8_firstState 21 = .ok (.ishl, 1) := by decide +kernel
theorem dX8_firstState_22 : decode cX8_firstState 22 = .ok (.ior, 1) := by decide +kernel
theorem dX8_firstState_23 : decode cX8_firstState 23 = .ok (.ireturn, 1) := by decide +kernel
theorem dX3_empty_0 : decode cX3_empty 0 = .ok (.aload_n 0, 1) := by decide +kernel
theorem dX3_empty_1 : decode cX3_empty 1 = .ok (.getfield 21, 3) := by decide +kernel
theorem dX3_empty_4 : decode cX3_empty 4 = .ok (.istore_n 1, 1) := by decide +kernel
theorem dX3_empty_5 : decode cX3_empty 5 = .ok (.aload_n 0, 1) := by decide +kernel
theorem dX3_empty_6 : decode cX3_empty 6 = .ok (.iconst 0, 1) := by decide +kernel
theorem dX3_empty_7 : decode cX3_empty 7 = .ok (.putfield 21, 3) := by decide +kernel
theorem dX3_empty_10 : decode cX3_empty 10 = .ok (.iload_n 1, 1) := by decide +kernel
theorem dX3_empty_11 : decode cX3_empty 11 = .ok (.ireturn, 1) := by decide +kernel
theorem dX9_empty_0 : decode cX9_empty 0 = .ok (.aload_n 0, 1) := by decide +kernel
theorem dX9_empty_1 : decode cX9_empty 1 = .ok (.iconst 0, 1) := by decide +kernel
theorem dX9_empty_2 : decode cX9_empty 2 = .ok (.putfield 28, 3) := by decide +kernel
theorem dX9_empty_5 : decode cX9_empty 5 = .ok (.aload_n 0, 1) := by decide +kernel
theorem dX9_empty_6 : decode cX9_empty 6 = .ok (.getfield 16, 3) := by decide +kernel
theorem dX9_empty_9 : decode cX9_empty 9 = .ok (.invokevirtual 36, 3) := by decide +kernel
theorem dX9_empty_12 : decode cX9_empty 12 = .ok (.ireturn, 1) := by decide +kernel
theorem dX10_beginAsTold_0 : decode cX10_beginAsTold 0 = .ok (.aload_n 0, 1) := by decide +kernel
theorem dX10_beginAsTold_1 : decode cX10_beginAsTold 1 = .ok (.getfield 37, 3) := by decide +kernel
theorem dX10_beginAsTold_4 : decode cX10_beginAsTold 4 = .ok (.aload_n 0, 1) := by decide +kernel
theorem dX10_beginAsTold_5 : decode cX10_beginAsTold 5 = .ok (.getfield 21, 3) := by decide +kernel
theorem dX10_beginAsTold_8 : decode cX10_beginAsTold 8 = .ok (.invokevirtual 105, 3) := by decide +kernel
theorem dX10_beginAsTold_11 : decode cX10_beginAsTold 11 = .ok (.aload_n 0, 1) := by decide +kernel
theorem dX10_beginAsTold_12 : decode cX10_beginAsTold 12 = .ok (.getfield 46, 3) := by decide +kernel
theorem dX10_beginAsTold_15 : decode cX10_beginAsTold 15 = .ok (.invokevirtual 108, 3) := by decide +kernel
theorem dX10_beginAsTold_18 : decode cX10_beginAsTold 18 = .ok (.aload_n 0, 1) := by decide +kernel
theorem dX10_beginAsTold_19 : decode cX10_beginAsTold 19 = .ok (.getfield 50, 3) := by decide +kernel
theorem dX10_beginAsTold_22 : decode cX10_beginAsTold 22 = .ok (.invokevirtual 108, 3) := by decide +kernel
theorem dX10_beginAsTold_25 : decode cX10_beginAsTold 25 = .ok (.aload_n 0, 1) := by decide +kernel
theorem dX10_beginAsTold_26 : decode cX10_beginAsTold 26 = .ok (.aload_n 0, 1) := by decide +kernel
theorem dX10_beginAsTold_27 : decode cX10_beginAsTold 27 = .ok (.getfield 21, 3) := by decide +kernel
theorem dX10_beginAsTold_30 : decode cX10_beginAsTold 30 = .ok (.invokevirtual 111, 3) := by decide +kernel
theorem dX10_beginAsTold_33 : decode cX10_beginAsTold 33 = .ok (.putfield 114, 3) := by decide +kernel
theorem dX10_beginAsTold_36 : decode cX10_beginAsTold 36 = .ok (.aload_n 0, 1) := by decide +kernel
theorem dX10_beginAsTold_37 : decode cX10_beginAsTold 37 = .ok (.iconst 0, 1) := by decide +kernel
theorem dX10_beginAsTold_38 : decode cX10_beginAsTold 38 = .ok (.putfield 118, 3) := by decide +kernel
theorem dX10_beginAsTold_41 : decode cX10_beginAsTold 41 = .ok (.aload_n 0, 1) := by decide +kernel
theorem dX10_beginAsTold_42 : decode cX10_beginAsTold 42 = .ok (.getfield 60, 3) := by decide +kernel
theorem dX10_beginAsTold_45 : decode cX10_beginAsTold 45 = .ok (.invokevirtual 87, 3) := by decide +kernel
theorem dX10_beginAsTold_48 : decode cX10_beginAsTold 48 = .ok (.pop, 1) := by decide +kernel
theorem dX10_beginAsTold_49 : decode cX10_beginAsTold 49 = .ok (.aload_n 0, 1) := by decide +kernel
theorem dX10_beginAsTold_50 : decode cX10_beginAsTold 50 = .ok (.getfield 67, 3) := by decide +kernel
theorem dX10_beginAsTold_53 : decode cX10_beginAsTold 53 = .ok (.iconst (-1), 1) := by decide +kernel
theorem dX10_beginAsTold_54 : decode cX10_beginAsTold 54 = .ok (.invokestatic 121, 3) := by decide +kernel
theorem dX10_beginAsTold_57 : decode cX10_beginAsTold 57 = .ok (.aload_n 0, 1) := by decide +kernel
theorem dX10_beginAsTold_58 : decode cX10_beginAsTold 58 = .ok (.getfield 70, 3) := by decide +kernel
theorem dX10_beginAsTold_61 : decode cX10_beginAsTold 61 = .ok (.invokevirtual 87, 3) := by decide +kernel
theorem dX10_beginAsTold_64 : decode cX10_beginAsTold 64 = .ok (.pop, 1) := by decide +kernel
theorem dX10_beginAsTold_65 : decode cX10_beginAsTold 65 = .ok (.aload_n 0, 1) := by decide +kernel
theorem dX10_beginAsTold_66 : decode cX10_beginAsTold 66 = .ok (.getfield 73, 3) := by decide +kernel
theorem dX10_beginAsTold_69 : decode cX10_beginAsTold 69 = .ok (.invokevirtual 87, 3) := by decide +kernel
theorem dX10_beginAsTold_72 : decode cX10_beginAsTold 72 = .ok (.pop, 1) := by decide +kernel
theorem dX10_beginAsTold_73 : decode cX10_beginAsTold 73 = .ok (.aload_n 0, 1) := by decide +kernel
theorem dX10_beginAsTold_74 : decode cX10_beginAsTold 74 = .ok (.getfield 56, 3) := by decide +kernel
theorem dX10_beginAsTold_77 : decode cX10_beginAsTold 77 = .ok (.invokevirtual 127, 3) := by decide +kernel
theorem dX10_beginAsTold_80 : decode cX10_beginAsTold 80 = .ok (.pop, 1) := by decide +kernel
theorem dX10_beginAsTold_81 : decode cX10_beginAsTold 81 = .ok (.return_, 1) := by decide +kernel
theorem dX10_init_0 : decode cX10_init 0 = .ok (.aload_n 0, 1) := by decide +kernel
theorem dX10_init_1 : decode cX10_init 1 = .ok (.invokespecial 1, 3) := by decide +kernel
theorem dX10_init_4 : decode cX10_init 4 = .ok (.aload_n 0, 1) := by decide +kernel
theorem dX10_init_5 : decode cX10_init 5 = .ok (.new 7, 3) := by decide +kernel
theorem dX10_init_8 : decode cX10_init 8 = .ok (.dup, 1) := by decide +kernel
theorem dX10_init_9 : decode cX10_init 9 = .ok (.sipush 240, 3) := by decide +kernel
theorem dX10_init_12 : decode cX10_init 12 = .ok (.invokespecial 11, 3) := by decide +kernel
theorem dX10_init_15 : decode cX10_init 15 = .ok (.putfield 14, 3) := by decide +kernel
theorem dX10_init_18 : decode cX10_init 18 = .ok (.aload_n 0, 1) := by decide +kernel
theorem dX10_init_19 : decode cX10_init 19 = .ok (.new 18, 3) := by decide +kernel
theorem dX10_init_22 : decode cX10_init 22 = .ok (.dup, 1) := by decide +kernel
theorem dX10_init_23 : decode cX10_init 23 = .ok (.invokespecial 20, 3) := by decide +kernel
theorem dX10_init_26 : decode cX10_init 26 = .ok (.putfield 21, 3) := by decide +kernel
theorem dX10_init_29 : decode cX10_init 29 = .ok (.aload_n 0, 1) := by decide +kernel
theorem dX10_init_30 : decode cX10_init 30 = .ok (.new 25, 3) := by decide +kernel
theorem dX10_init_33 : decode cX10_init 33 = .ok (.dup, 1) := by decide +kernel
theorem dX10_init_34 : decode cX10_init 34 = .ok (.aload_n 0, 1) := by decide +kernel
theorem dX10_init_35 : decode cX10_init 35 = .ok (.getfield 14, 3) := by decide +kernel
theorem dX10_init_38 : decode cX10_init 38 = .ok (.invokespecial 27, 3) := by decide +kernel
theorem dX10_init_41 : decode cX10_init 41 = .ok (.putfield 30, 3) := by decide +kernel
theorem dX10_init_44 : decode cX10_init 44 = .ok (.aload_n 0, 1) := by decide +kernel
theorem dX10_init_45 : decode cX10_init 45 = .ok (.new 34, 3) := by decide +kernel
theorem dX10_init_48 : decode cX10_init 48 = .ok (.dup, 1) := by decide +kernel
theorem dX10_init_49 : decode cX10_init 49 = .ok (.invokespecial 36, 3) := by decide +kernel
theorem dX10_init_52 : decode cX10_init 52 = .ok (.putfield 37, 3) := by decide +kernel
theorem dX10_init_55 : decode cX10_init 55 = .ok (.aload_n 0, 1) := by decide +kernel
theorem dX10_init_56 : decode cX10_init 56 = .ok (.new 41, 3) := by decide +kernel
theorem dX10_init_59 : decode cX10_init 59 = .ok (.dup, 1) := by decide +kernel
theorem dX10_init_60 : decode cX10_init 60 = .ok (.aload_n 0, 1) := by decide +kernel
theorem dX10_init_61 : decode cX10_init 61 = .ok (.getfield 37, 3) := by decide +kernel
theorem dX10_init_64 : decode cX10_init 64 = .ok (.invokespecial 43, 3) := by decide +kernel
theorem dX10_init_67 : decode cX10_init 67 = .ok (.putfield 46, 3) := by decide +kernel
theorem dX10_init_70 : decode cX10_init 70 = .ok (.aload_n 0, 1) := by decide +kernel
theorem dX10_init_71 : decode cX10_init 71 = .ok (.new 41, 3) := by decide +kernel
theorem dX10_init_74 : decode cX10_init 74 = .ok (.dup, 1) := by decide +kernel
theorem dX10_init_75 : decode cX10_init 75 = .ok (.aload_n 0, 1) := by decide +kernel
theorem dX10_init_76 : decode cX10_init 76 = .ok (.getfield 37, 3) := by decide +kernel
theorem dX10_init_79 : decode cX10_init 79 = .ok (.invokespecial 43, 3) := by decide +kernel
theorem dX10_init_82 : decode cX10_init 82 = .ok (.putfield 50, 3) := by decide +kernel
theorem dX10_init_85 : decode cX10_init 85 = .ok (.aload_n 0, 1) := by decide +kernel
theorem dX10_init_86 : decode cX10_init 86 = .ok (.new 53, 3) := by decide +kernel
theorem dX10_init_89 : decode cX10_init 89 = .ok (.dup, 1) := by decide +kernel
theorem dX10_init_90 : decode cX10_init 90 = .ok (.invokespecial 55, 3) := by decide +kernel
theorem dX10_init_93 : decode cX10_init 93 = .ok (.putfield 56, 3) := by decide +kernel
theorem dX10_init_96 : decode cX10_init 96 = .ok (.aload_n 0, 1) := by decide +kernel
theorem dX10_init_97 : decode cX10_init 97 = .ok (.new 7, 3) := by decide +kernel
theorem dX10_init_100 : decode cX10_init 100 = .ok (.dup, 1) := by decide +kernel
theorem dX10_init_101 : decode cX10_init 101 = .ok (.bipush 8, 2) := by decide +kernel
theorem dX10_init_103 : decode cX10_init 103 = .ok (.invokespecial 11, 3) := by decide +kernel
theorem dX10_init_106 : decode cX10_init 106 = .ok (.putfield 60, 3) := by decide +kernel
theorem dX10_init_109 : decode cX10_init 109 = .ok (.aload_n 0, 1) := by decide +kernel
theorem dX10_init_110 : decode cX10_init 110 = .ok (.iconst 2, 1) := by decide +kernel
theorem dX10_init_111 : decode cX10_init 111 = .ok (.newarray .int, 2) := by decide +kernel
theorem dX10_init_113 : decode cX10_init 113 = .ok (.putfield 63, 3) := by decide +kernel
theorem dX10_init_116 : decode cX10_init 116 = .ok (.aload_n 0, 1) := by decide +kernel
theorem dX10_init_117 : decode cX10_init 117 = .ok (.iconst 2, 1) := by decide +kernel
theorem dX10_init_118 : decode cX10_init 118 = .ok (.newarray .int, 2) := by decide +kernel
theorem dX10_init_120 : decode cX10_init 120 = .ok (.putfield 67, 3) := by decide +kernel
theorem dX10_init_123 : decode cX10_init 123 = .ok (.aload_n 0, 1) := by decide +kernel
theorem dX10_init_124 : decode cX10_init 124 = .ok (.new 7, 3) := by decide +kernel
theorem dX10_init_127 : decode cX10_init 127 = .ok (.dup, 1) := by decide +kernel
theorem dX10_init_128 : decode cX10_init 128 = .ok (.bipush 12, 2) := by decide +kernel
theorem dX10_init_130 : decode cX10_init 130 = .ok (.invokespecial 11, 3) := by decide +kernel
theorem dX10_init_133 : decode cX10_init 133 = .ok (.putfield 70, 3) := by decide +kernel
theorem dX10_init_136 : decode cX10_init 136 = .ok (.aload_n 0, 1) := by decide +kernel
theorem dX10_init_137 : decode cX10_init 137 = .ok (.new 7, 3) := by decide +kernel
theorem dX10_init_140 : decode cX10_init 140 = .ok (.dup, 1) := by decide +kernel
theorem dX10_init_141 : decode cX10_init 141 = .ok (.iconst 5, 1) := by decide +kernel
theorem dX10_init_142 : decode cX10_init 142 = .ok (.invokespecial 11, 3) := by decide +kernel
theorem dX10_init_145 : decode cX10_init 145 = .ok (.putfield 73, 3) := by decide +kernel
theorem dX10_init_148 : decode cX10_init 148 = .ok (.aload_n 0, 1) := by decide +kernel
theorem dX10_init_149 : decode cX10_init 149 = .ok (.invokevirtual 76, 3) := by decide +kernel
theorem dX10_init_152 : decode cX10_init 152 = .ok (.return_, 1) := by decide +kernel
theorem dX3_add_0 : decode cX3_add 0 = .ok (.aload_n 0, 1) := by decide +kernel
theorem dX3_add_1 : decode cX3_add 1 = .ok (.getfield 21, 3) := by decide +kernel
theorem dX3_add_4 : decode cX3_add 4 = .ok (.ifCond .lt 15, 3) := by decide +kernel
theorem dX3_add_7 : decode cX3_add 7 = .ok (.aload_n 0, 1) := by decide +kernel
theorem dX3_add_8 : decode cX3_add 8 = .ok (.getfield 21, 3) := by decide +kernel
theorem dX3_add_11 : decode cX3_add 11 = .ok (.aload_n 0, 1) := by decide +kernel
theorem dX3_add_12 : decode cX3_add 12 = .ok (.getfield 15, 3) := by decide +kernel
theorem dX3_add_15 : decode cX3_add 15 = .ok (.arraylength, 1) := by decide +kernel
theorem dX3_add_16 : decode cX3_add 16 = .ok (.if_icmp .lt 5, 3) := by decide +kernel
theorem dX3_add_19 : decode cX3_add 19 = .ok (.iconst 0, 1) := by decide +kernel
theorem dX3_add_20 : decode cX3_add 20 = .ok (.ireturn, 1) := by decide +kernel
theorem dX3_add_21 : decode cX3_add 21 = .ok (.aload_n 0, 1) := by decide +kernel
theorem dX3_add_22 : decode cX3_add 22 = .ok (.getfield 15, 3) := by decide +kernel
theorem dX3_add_25 : decode cX3_add 25 = .ok (.aload_n 0, 1) := by decide +kernel
theorem dX3_add_26 : decode cX3_add 26 = .ok (.getfield 21, 3) := by decide +kernel
theorem dX3_add_29 : decode cX3_add 29 = .ok (.iload_n 1, 1) := by decide +kernel
theorem dX3_add_30 : decode cX3_add 30 = .ok (.iastore, 1) := by decide +kernel
theorem dX3_add_31 : decode cX3_add 31 = .ok (.aload_n 0, 1) := by decide +kernel
theorem dX3_add_32 : decode cX3_add 32 = .ok (.dup, 1) := by decide +kernel
theorem dX3_add_33 : decode cX3_add 33 = .ok (.getfield 21, 3) := by decide +kernel
theorem dX3_add_36 : decode cX3_add 36 = .ok (.iconst 1, 1) := by decide +kernel
theorem dX3_add_37 : decode cX3_add 37 = .ok (.iadd, 1) := by decide +kernel
theorem dX3_add_38 : decode cX3_add 38 = .ok (.putfield 21, 3) := by decide +kernel
theorem dX3_add_41 : decode cX3_add 41 = .ok (.iconst 1, 1) := by decide +kernel
theorem dX3_add_42 : decode cX3_add 42 = .ok (.ireturn, 1) := by decide +kernel
theorem dX3_size_0 : decode cX3_size 0 = .ok (.aload_n 0, 1) := by decide +kernel
theorem dX3_size_1 : decode cX3_size 1 = .ok (.getfield 21, 3) := by decide +kernel
theorem dX3_size_4 : decode cX3_size 4 = .ok (.ireturn, 1) := by decide +kernel
theorem dX10_write_0 : decode cX10_write 0 = .ok (.iload_n 1, 1) := by decide +kernel
theorem dX10_write_1 : decode cX10_write 1 = .ok (.ifCond .lt 10, 3) := by decide +kernel
theorem dX10_write_4 : decode cX10_write 4 = .ok (.iload_n 1, 1) := by decide +kernel
theorem dX10_write_5 : decode cX10_write 5 = .ok (.sipush 255, 3) := by decide +kernel
theorem dX10_write_8 : decode cX10_write 8 = .ok (.if_icmp .le 6, 3) := by decide +kernel
theorem dX10_write_11 : decode cX10_write 11 = .ok (.bipush (-3), 2) := by decide +kernel
theorem dX10_write_13 : decode cX10_write 13 = .ok (.ireturn, 1) := by decide +kernel
theorem dX10_write_14 : decode cX10_write 14 = .ok (.aload_n 0, 1) := by decide +kernel
theorem dX10_write_15 : decode cX10_write 15 = .ok (.getfield 14, 3) := by decide +kernel
theorem dX10_write_18 : decode cX10_write 18 = .ok (.iload_n 1, 1) := by decide +kernel
theorem dX10_write_19 : decode cX10_write 19 = .ok (.invokevirtual 79, 3) := by decide +kernel
theorem dX10_write_22 : decode cX10_write 22 = .ok (.ifCond .eq 13, 3) := by decide +kernel
theorem dX10_write_25 : decode cX10_write 25 = .ok (.aload_n 0, 1) := by decide +kernel
theorem dX10_write_26 : decode cX10_write 26 = .ok (.getfield 14, 3) := by decide +kernel
theorem dX10_write_29 : decode cX10_write 29 = .ok (.invokevirtual 83, 3) := by decide +kernel
theorem dX10_write_32 : decode cX10_write 32 = .ok (.goto 5, 3) := by decide +kernel
theorem dX10_write_35 : decode cX10_write 35 = .ok (.bipush (-5), 2) := by decide +kernel
theorem dX10_write_37 : decode cX10_write 37 = .ok (.ireturn, 1) := by decide +kernel
theorem dX10_erase_0 : decode cX10_erase 0 = .ok (.aload_n 0, 1) := by decide +kernel
theorem dX10_erase_1 : decode cX10_erase 1 = .ok (.getfield 14, 3) := by decide +kernel
theorem dX10_erase_4 : decode cX10_erase 4 = .ok (.invokevirtual 87, 3) := by decide +kernel
theorem dX10_erase_7 : decode cX10_erase 7 = .ok (.ireturn, 1) := by decide +kernel
theorem dX8_takeOver_0 : decode cX8_takeOver 0 = .ok (.aload_n 0, 1) := by decide +kernel
theorem dX8_takeOver_1 : decode cX8_takeOver 1 = .ok (.aload_n 1, 1) := by decide +kernel
theorem dX8_takeOver_2 : decode cX8_takeOver 2 = .ok (.getfield 9, 3) := by decide +kernel
theorem dX8_takeOver_5 : decode cX8_takeOver 5 = .ok (.putfield 9, 3) := by decide +kernel
theorem dX8_takeOver_8 : decode cX8_takeOver 8 = .ok (.aload_n 0, 1) := by decide +kernel
theorem dX8_takeOver_9 : decode cX8_takeOver 9 = .ok (.aload_n 1, 1) := by decide +kernel
theorem dX8_takeOver_10 : decode cX8_takeOver 10 = .ok (.getfield 34, 3) := by decide +kernel
theorem dX8_takeOver_13 : decode cX8_takeOver 13 = .ok (.putfield 34, 3) := by decide +kernel
theorem dX8_takeOver_16 : decode cX8_takeOver 16 = .ok (.aload_n 0, 1) := by decide +kernel
theorem dX8_takeOver_17 : decode cX8_takeOver 17 = .ok (.aload_n 1, 1) := by decide +kernel
theorem dX8_takeOver_18 : decode cX8_takeOver 18 = .ok (.getfield 37, 3) := by decide +kernel
theorem dX8_takeOver_21 : decode cX8_takeOver 21 = .ok (.putfield 37, 3) := by decide +kernel
theorem dX8_takeOver_24 : decode cX8_takeOver 24 = .ok (.aload_n 0, 1) := by decide +kernel
theorem dX8_takeOver_25 : decode cX8_takeOver 25 = .ok (.aload_n 1, 1) := by decide +kernel
theorem dX8_takeOver_26 : decode cX8_takeOver 26 = .ok (.getfield 40, 3) := by decide +kernel
theorem dX8_takeOver_29 : decode cX8_takeOver 29 = .ok (.putfield 40, 3) := by decide +kernel
theorem dX8_takeOver_32 : decode cX8_takeOver 32 = .ok (.aload_n 1, 1) := by decide +kernel
theorem dX8_takeOver_33 : decode cX8_takeOver 33 = .ok (.getfield 15, 3) := by decide +kernel
theorem dX8_takeOver_36 : decode cX8_takeOver 36 = .ok (.iconst 0, 1) := by decide +kernel
theorem dX8_takeOver_37 : decode cX8_takeOver 37 = .ok (.aload_n 0, 1) := by decide +kernel
theorem dX8_takeOver_38 : decode cX8_takeOver 38 = .ok (.getfield 15, 3) := by decide +kernel
theorem dX8_takeOver_41 : decode cX8_takeOver 41 = .ok (.iconst 0, 1) := by decide +kernel
theorem dX8_takeOver_42 : decode cX8_takeOver 42 = .ok (.iconst 5, 1) := by decide +kernel
theorem dX8_takeOver_43 : decode cX8_takeOver 43 = .ok (.invokestatic 43, 3) := by decide +kernel
theorem dX8_takeOver_46 : decode cX8_takeOver 46 = .ok (.aload_n 1, 1) := by decide +kernel
theorem dX8_takeOver_47 : decode cX8_takeOver 47 = .ok (.getfield 19, 3) := by decide +kernel
theorem dX8_takeOver_50 : decode cX8_takeOver 50 = .ok (.iconst 0, 1) := by decide +kernel
theorem dX8_takeOver_51 : decode cX8_takeOver 51 = .ok (.aload_n 0, 1) := by decide +kernel
theorem dX8_takeOver_52 : decode cX8_takeOver 52 = .ok (.getfield 19, 3) := by decide +kernel
theorem dX8_takeOver_55 : decode cX8_takeOver 55 = .ok (.iconst 0, 1) := by decide +kernel
theorem dX8_takeOver_56 : decode cX8_takeOver 56 = .ok (.iconst 5, 1) := by decide +kernel
theorem dX8_takeOver_57 : decode cX8_takeOver 57 = .ok (.invokestatic 43, 3) := by decide +kernel
theorem dX8_takeOver_60 : decode cX8_takeOver 60 = .ok (.aload_n 1, 1) := by decide +kernel
theorem dX8_takeOver_61 : decode cX8_takeOver 61 = .ok (.getfield 22, 3) := by decide +kernel
theorem dX8_takeOver_64 : decode cX8_takeOver 64 = .ok (.iconst 0, 1) := by decide +kernel
theorem dX8_takeOver_65 : decode cX8_takeOver 65 = .ok (.aload_n 0, 1) := by decide +kernel
theorem dX8_takeOver_66 : decode cX8_takeOver 66 = .ok (.getfield 22, 3) := by decide +kernel
theorem dX8_takeOver_69 : decode cX8_takeOver 69 = .ok (.iconst 0, 1) := by decide +kernel
theorem dX8_takeOver_70 : decode cX8_takeOver 70 = .ok (.iconst 5, 1) := by decide +kernel
theorem dX8_takeOver_71 : decode cX8_takeOver 71 = .ok (.invokestatic 43, 3) := by decide +kernel
theorem dX8_takeOver_74 : decode cX8_takeOver 74 = .ok (.aload_n 1, 1) := by decide +kernel
theorem dX8_takeOver_75 : decode cX8_takeOver 75 = .ok (.getfield 25, 3) := by decide +kernel
theorem dX8_takeOver_78 : decode cX8_takeOver 78 = .ok (.iconst 0, 1) := by decide +kernel
theorem dX8_takeOver_79 : decode cX8_takeOver 79 = .ok (.aload_n 0, 1) := by decide +kernel
theorem dX8_takeOver_80 : decode cX8_takeOver 80 = .ok (.getfield 25, 3) := by decide +kernel
theorem dX8_takeOver_83 : decode cX8_takeOver 83 = .ok (.iconst 0, 1) := by decide +kernel
theorem dX8_takeOver_84 : decode cX8_takeOver 84 = .ok (.iconst 5, 1) := by decide +kernel
theorem dX8_takeOver_85 : decode cX8_takeOver 85 = .ok (.invokestatic 43, 3) := by decide +kernel
theorem dX8_takeOver_88 : decode cX8_takeOver 88 = .ok (.aload_n 1, 1) := by decide +kernel
theorem dX8_takeOver_89 : decode cX8_takeOver 89 = .ok (.getfield 28, 3) := by decide +kernel
theorem dX8_takeOver_92 : decode cX8_takeOver 92 = .ok (.iconst 0, 1) := by decide +kernel
theorem dX8_takeOver_93 : decode cX8_takeOver 93 = .ok (.aload_n 0, 1) := by decide +kernel
theorem dX8_takeOver_94 : decode cX8_takeOver 94 = .ok (.getfield 28, 3) := by decide +kernel
theorem dX8_takeOver_97 : decode cX8_takeOver 97 = .ok (.iconst 0, 1) := by decide +kernel
theorem dX8_takeOver_98 : decode cX8_takeOver 98 = .ok (.bipush 15, 2) := by decide +kernel
theorem dX8_takeOver_100 : decode cX8_takeOver 100 = .ok (.invokestatic 43, 3) := by decide +kernel
theorem dX8_takeOver_103 : decode cX8_takeOver 103 = .ok (.aload_n 1, 1) := by decide +kernel
theorem dX8_takeOver_104 : decode cX8_takeOver 104 = .ok (.getfield 31, 3) := by decide +kernel
theorem dX8_takeOver_107 : decode cX8_takeOver 107 = .ok (.iconst 0, 1) := by decide +kernel
theorem dX8_takeOver_108 : decode cX8_takeOver 108 = .ok (.aload_n 0, 1) := by decide +kernel
theorem dX8_takeOver_109 : decode cX8_takeOver 109 = .ok (.getfield 31, 3) := by decide +kernel
theorem dX8_takeOver_112 : decode cX8_takeOver 112 = .ok (.iconst 0, 1) := by decide +kernel
theorem dX8_takeOver_113 : decode cX8_takeOver 113 = .ok (.bipush 15, 2) := by decide +kernel
theorem dX8_takeOver_115 : decode cX8_takeOver 115 = .ok (.invokestatic 43, 3) := by decide +kernel
theorem dX8_takeOver_118 : decode cX8_takeOver 118 = .ok (.return_, 1) := by decide +kernel
theorem dX3_at_0 : decode cX3_at 0 = .ok (.iload_n 1, 1) := by decide +kernel
theorem dX3_at_1 : decode cX3_at 1 = .ok (.ifCond .lt 20, 3) := by decide +kernel
theorem dX3_at_4 : decode cX3_at 4 = .ok (.iload_n 1, 1) := by decide +kernel
theorem dX3_at_5 : decode cX3_at 5 = .ok (.aload_n 0, 1) := by decide +kernel
theorem dX3_at_6 : decode cX3_at 6 = .ok (.getfield 21, 3) := by decide +kernel
theorem dX3_at_9 : decode cX3_at 9 = .ok (.if_icmp .ge 12, 3) := by decide +kernel
theorem dX3_at_12 : decode cX3_at 12 = .ok (.iload_n 1, 1) := by decide +kernel
theorem dX3_at_13 : decode cX3_at 13 = .ok (.aload_n 0, 1) := by decide +kernel
theorem dX3_at_14 : decode cX3_at 14 = .ok (.getfield 15, 3) := by decide +kernel
theorem dX3_at_17 : decode cX3_at 17 = .ok (.arraylength, 1) := by decide +kernel
theorem dX3_at_18 : decode cX3_at 18 = .ok (.if_icmp .lt 7, 3) := by decide +kernel
theorem dX3_at_21 : decode cX3_at 21 = .ok (.iconst (-1), 1) := by decide +kernel
theorem dX3_at_22 : decode cX3_at 22 = .ok (.goto 9, 3) := by decide +kernel
theorem dX3_at_25 : decode cX3_at 25 = .ok (.aload_n 0, 1) := by decide +kernel
theorem dX3_at_26 : decode cX3_at 26 = .ok (.getfield 15, 3) := by decide +kernel
theorem dX3_at_29 : decode cX3_at 29 = .ok (.iload_n 1, 1) := by decide +kernel
theorem dX3_at_30 : decode cX3_at 30 = .ok (.iaload, 1) := by decide +kernel
theorem dX3_at_31 : decode cX3_at 31 = .ok (.ireturn, 1) := by decide +kernel
theorem dX2_isSmall_0 : decode cX2_isSmall 0 = .ok (.iload_n 0, 1) := by decide +kernel
theorem dX2_isSmall_1 : decode cX2_isSmall 1 = .ok (.bipush 97, 2) := by decide +kernel
theorem dX2_isSmall_3 : decode cX2_isSmall 3 = .ok (.if_icmp .lt 13, 3) := by decide +kernel
theorem dX2_isSmall_6 : decode cX2_isSmall 6 = .ok (.iload_n 0, 1) := by decide +kernel
theorem dX2_isSmall_7 : decode cX2_isSmall 7 = .ok (.bipush 122, 2) := by decide +kernel
theorem dX2_isSmall_9 : decode cX2_isSmall 9 = .ok (.if_icmp .gt 7, 3) := by decide +kernel
theorem dX2_isSmall_12 : decode cX2_isSmall 12 = .ok (.iconst 1, 1) := by decide +kernel
theorem dX2_isSmall_13 : decode cX2_isSmall 13 = .ok (.goto 4, 3) := by decide +kernel
theorem dX2_isSmall_16 : decode cX2_isSmall 16 = .ok (.iconst 0, 1) := by decide +kernel
theorem dX2_isSmall_17 : decode cX2_isSmall 17 = .ok (.ireturn, 1) := by decide +kernel
theorem dX2_isDigit_0 : decode cX2_isDigit 0 = .ok (.iload_n 0, 1) := by decide +kernel
theorem dX2_isDigit_1 : decode cX2_isDigit 1 = .ok (.bipush 48, 2) := by decide +kernel
theorem dX2_isDigit_3 : decode cX2_isDigit 3 = .ok (.if_icmp .lt 13, 3) := by decide +kernel
theorem dX2_isDigit_6 : decode cX2_isDigit 6 = .ok (.iload_n 0, 1) := by decide +kernel
theorem dX2_isDigit_7 : decode cX2_isDigit 7 = .ok (.bipush 57, 2) := by decide +kernel
theorem dX2_isDigit_9 : decode cX2_isDigit 9 = .ok (.if_icmp .gt 7, 3) := by decide +kernel
theorem dX2_isDigit_12 : decode cX2_isDigit 12 = .ok (.iconst 1, 1) := by decide +kernel
theorem dX2_isDigit_13 : decode cX2_isDigit 13 = .ok (.goto 4, 3) := by decide +kernel
theorem dX2_isDigit_16 : decode cX2_isDigit 16 = .ok (.iconst 0, 1) := by decide +kernel
theorem dX2_isDigit_17 : decode cX2_isDigit 17 = .ok (.ireturn, 1) := by decide +kernel
theorem dX2_beginsToken_0 : decode cX2_beginsToken 0 = .ok (.aload_n 0, 1) := by decide +kernel
theorem dX2_beginsToken_1 : decode cX2_beginsToken 1 = .ok (.getfield 30, 3) := by decide +kernel
theorem dX2_beginsToken_4 : decode cX2_beginsToken 4 = .ok (.iload_n 1, 1) := by decide +kernel
theorem dX2_beginsToken_5 : decode cX2_beginsToken 5 = .ok (.invokevirtual 51, 3) := by decide +kernel
theorem dX2_beginsToken_8 : decode cX2_beginsToken 8 = .ok (.istore_n 2, 1) := by decide +kernel
theorem dX2_beginsToken_9 : decode cX2_beginsToken 9 = .ok (.aload_n 0, 1) := by decide +kernel
theorem dX2_beginsToken_10 : decode cX2_beginsToken 10 = .ok (.getfield 30, 3) := by decide +kernel
theorem dX2_beginsToken_13 : decode cX2_beginsToken 13 = .ok (.iload_n 1, 1) := by decide +kernel
theorem dX2_beginsToken_14 : decode cX2_beginsToken 14 = .ok (.iconst 1, 1) := by decide +kernel
theorem dX2_beginsToken_15 : decode cX2_beginsToken 15 = .ok (.isub, 1) := by decide +kernel
theorem dX2_beginsToken_16 : decode cX2_beginsToken 16 = .ok (.invokevirtual 51, 3) := by decide +kernel
theorem dX2_beginsToken_19 : decode cX2_beginsToken 19 = .ok (.istore_n 3, 1) := by decide +kernel
theorem dX2_beginsToken_20 : decode cX2_beginsToken 20 = .ok (.iload_n 2, 1) := by decide +kernel
theorem dX2_beginsToken_21 : decode cX2_beginsToken 21 = .ok (.invokestatic 78, 3) := by decide +kernel
theorem dX2_beginsToken_24 : decode cX2_beginsToken 24 = .ok (.ifCond .eq 10, 3) := by decide +kernel
theorem dX2_beginsToken_27 : decode cX2_beginsToken 27 = .ok (.iload_n 3, 1) := by decide +kernel
theorem dX2_beginsToken_28 : decode cX2_beginsToken 28 = .ok (.invokestatic 78, 3) := by decide +kernel
theorem dX2_beginsToken_31 : decode cX2_beginsToken 31 = .ok (.ifCond .ne 17, 3) := by decide +kernel
theorem dX2_beginsToken_34 : decode cX2_beginsToken 34 = .ok (.iload_n 2, 1) := by decide +kernel
theorem dX2_beginsToken_35 : decode cX2_beginsToken 35 = .ok (.invokestatic 81, 3) := by decide +kernel
theorem dX2_beginsToken_38 : decode cX2_beginsToken 38 = .ok (.ifCond .eq 14, 3) := by decide +kernel
theorem dX2_beginsToken_41 : decode cX2_beginsToken 41 = .ok (.iload_n 3, 1) := by decide +kernel
theorem dX2_beginsToken_42 : decode cX2_beginsToken 42 = .ok (.invokestatic 81, 3) := by decide +kernel
theorem dX2_beginsToken_45 : decode cX2_beginsToken 45 = .ok (.ifCond .eq 7, 3) := by decide +kernel
theorem dX2_beginsToken_48 : decode cX2_beginsToken 48 = .ok (.iconst 1, 1) := by decide +kernel
theorem dX2_beginsToken_49 : decode cX2_beginsToken 49 = .ok (.goto 4, 3) := by decide +kernel
theorem dX2_beginsToken_52 : decode cX2_beginsToken 52 = .ok (.iconst 0, 1) := by decide +kernel
theorem dX2_beginsToken_53 : decode cX2_beginsToken 53 = .ok (.istore 4, 2) := by decide +kernel
theorem dX2_beginsToken_55 : decode cX2_beginsToken 55 = .ok (.iload_n 2, 1) := by decide +kernel
theorem dX2_beginsToken_56 : decode cX2_beginsToken 56 = .ok (.bipush 32, 2) := by decide +kernel
theorem dX2_beginsToken_58 : decode cX2_beginsToken 58 = .ok (.if_icmp .eq 12, 3) := by decide +kernel
theorem dX2_beginsToken_61 : decode cX2_beginsToken 61 = .ok (.iload 4, 2) := by decide +kernel
theorem dX2_beginsToken_63 : decode cX2_beginsToken 63 = .ok (.ifCond .ne 7, 3) := by decide +kernel
theorem dX2_beginsToken_66 : decode cX2_beginsToken 66 = .ok (.iconst 1, 1) := by decide +kernel
theorem dX2_beginsToken_67 : decode cX2_beginsToken 67 = .ok (.goto 4, 3) := by decide +kernel
theorem dX2_beginsToken_70 : decode cX2_beginsToken 70 = .ok (.iconst 0, 1) := by decide +kernel
theorem dX2_beginsToken_71 : decode cX2_beginsToken 71 = .ok (.ireturn, 1) := by decide +kernel
theorem dX2_endOfToken_0 : decode cX2_endOfToken 0 = .ok (.iload_n 1, 1) := by decide +kernel
theorem dX2_endOfToken_1 : decode cX2_endOfToken 1 = .ok (.iconst 1, 1) := by decide +kernel
theorem dX2_endOfToken_2 : decode cX2_endOfToken 2 = .ok (.iadd, 1) := by decide +kernel
theorem dX2_endOfToken_3 : decode cX2_endOfToken 3 = .ok (.istore_n 2, 1) := by decide +kernel
theorem dX2_endOfToken_4 : decode cX2_endOfToken 4 = .ok (.aload_n 0, 1) := by decide +kernel
theorem dX2_endOfToken_5 : decode cX2_endOfToken 5 = .ok (.getfield 30, 3) := by decide +kernel
theorem dX2_endOfToken_8 : decode cX2_endOfToken 8 = .ok (.iload_n 1, 1) := by decide +kernel
theorem dX2_endOfToken_9 : decode cX2_endOfToken 9 = .ok (.invokevirtual 51, 3) := by decide +kernel
theorem dX2_endOfToken_12 : decode cX2_endOfToken 12 = .ok (.invokestatic 78, 3) := by decide +kernel
theorem dX2_endOfToken_15 : decode cX2_endOfToken 15 = .ok (.ifCond .eq 34, 3) := by decide +kernel
theorem dX2_endOfToken_18 : decode cX2_endOfToken 18 = .ok (.iload_n 2, 1) := by decide +kernel
theorem dX2_endOfToken_19 : decode cX2_endOfToken 19 = .ok (.aload_n 0, 1) := by decide +kernel
theorem dX2_endOfToken_20 : decode cX2_endOfToken 20 = .ok (.getfield 30, 3) := by decide +kernel
theorem dX2_endOfToken_23 : decode cX2_endOfToken 23 = .ok (.invokevirtual 62, 3) := by decide +kernel
theorem dX2_endOfToken_26 : decode cX2_endOfToken 26 = .ok (.if_icmp .ge 68, 3) := by decide +kernel
theorem dX2_endOfToken_29 : decode cX2_endOfToken 29 = .ok (.aload_n 0, 1) := by decide +kernel
theorem dX2_endOfToken_30 : decode cX2_endOfToken 30 = .ok (.getfield 30, 3) := by decide +kernel
theorem dX2_endOfToken_33 : decode cX2_endOfToken 33 = .ok (.iload_n 2, 1) := by decide +kernel
theorem dX2_endOfToken_34 : decode cX2_endOfToken 34 = .ok (.invokevirtual 51, 3) := by decide +kernel
theorem dX2_endOfToken_37 : decode cX2_endOfToken 37 = .ok (.invokestatic 78, 3) := by decide +kernel
theorem dX2_endOfToken_40 : decode cX2_endOfToken 40 = .ok (.ifCond .eq 54, 3) := by decide +kernel
theorem dX2_endOfToken_43 : decode cX2_endOfToken 43 = .ok (.iinc 2 1, 3) := by decide +kernel
theorem dX2_endOfToken_46 : decode cX2_endOfToken 46 = .ok (.goto (-28), 3) := by decide +kernel
theorem dX2_endOfToken_49 : decode cX2_endOfToken 49 = .ok (.aload_n 0, 1) := by decide +kernel
theorem dX2_endOfToken_50 : decode cX2_endOfToken 50 = .ok (.getfield 30, 3) := by decide +kernel
theorem dX2_endOfToken_53 : decode cX2_endOfToken 53 = .ok (.iload_n 1, 1) := by decide +kernel
theorem dX2_endOfToken_54 : decode cX2_endOfToken 54 = .ok (.invokevirtual 51, 3) := by decide +kernel
theorem dX2_endOfToken_57 : decode cX2_endOfToken 57 = .ok (.invokestatic 81, 3) := by decide +kernel
theorem dX2_endOfToken_60 : decode cX2_endOfToken 60 = .ok (.ifCond .eq 34, 3) := by decide +kernel
theorem dX2_endOfToken_63 : decode cX2_endOfToken 63 = .ok (.iload_n 2, 1) := by decide +kernel
theorem dX2_endOfToken_64 : decode cX2_endOfToken 64 = .ok (.aload_n 0, 1) := by decide +kernel
theorem dX2_endOfToken_65 : decode cX2_endOfToken 65 = .ok (.getfield 30, 3) := by decide +kernel
theorem dX2_endOfToken_68 : decode cX2_endOfToken 68 = .ok (.invokevirtual 62, 3) := by decide +kernel
theorem dX2_endOfToken_71 : decode cX2_endOfToken 71 = .ok (.if_icmp .ge 23, 3) := by decide +kernel
theorem dX2_endOfToken_74 : decode cX2_endOfToken 74 = .ok (.aload_n 0, 1) := by decide +kernel
theorem dX2_endOfToken_75 : decode cX2_endOfToken 75 = .ok (.getfield 30, 3) := by decide +kernel
theorem dX2_endOfToken_78 : decode cX2_endOfToken 78 = .ok (.iload_n 2, 1) := by decide +kernel
theorem dX2_endOfToken_79 : decode cX2_endOfToken 79 = .ok (.invokevirtual 51, 3) := by decide +kernel
theorem dX2_endOfToken_82 : decode cX2_endOfToken 82 = .ok (.invokestatic 81, 3) := by decide +kernel
theorem dX2_endOfToken_85 : decode cX2_endOfToken 85 = .ok (.ifCond .eq 9, 3) := by decide +kernel
theorem dX2_endOfToken_88 : decode cX2_endOfToken 88 = .ok (.iinc 2 1, 3) := by decide +kernel
theorem dX2_endOfToken_91 : decode cX2_endOfToken 91 = .ok (.goto (-28), 3) := by decide +kernel
theorem dX2_endOfToken_94 : decode cX2_endOfToken 94 = .ok (.iload_n 2, 1) := by decide +kernel
theorem dX2_endOfToken_95 : decode cX2_endOfToken 95 = .ok (.ireturn, 1) := by decide +kernel
theorem dX2_isSpelled_0 : decode cX2_isSpelled 0 = .ok (.iload_n 2, 1) := by decide +kernel
theorem dX2_isSpelled_1 : decode cX2_isSpelled 1 = .ok (.istore 4, 2) := by decide +kernel
theorem dX2_isSpelled_3 : decode cX2_isSpelled 3 = .ok (.iload 4, 2) := by decide +kernel
theorem dX2_isSpelled_5 : decode cX2_isSpelled 5 = .ok (.iload_n 3, 1) := by decide +kernel
theorem dX2_isSpelled_6 : decode cX2_isSpelled 6 = .ok (.if_icmp .ge 44, 3) := by decide +kernel
theorem dX2_isSpelled_9 : decode cX2_isSpelled 9 = .ok (.iload 4, 2) := by decide +kernel
theorem dX2_isSpelled_11 : decode cX2_isSpelled 11 = .ok (.ldc 87, 2) := by decide +kernel
theorem dX2_isSpelled_13 : decode cX2_isSpelled 13 = .ok (.invokevirtual 89, 3) := by decide +kernel
theorem dX2_isSpelled_16 : decode cX2_isSpelled 16 = .ok (.if_icmp .ge 34, 3) := by decide +kernel
theorem dX2_isSpelled_19 : decode cX2_isSpelled 19 = .ok (.ldc 87, 2) := by decide +kernel
theorem dX2_isSpelled_21 : decode cX2_isSpelled 21 = .ok (.iload 4, 2) := by decide +kernel
theorem dX2_isSpelled_23 : decode cX2_isSpelled 23 = .ok (.invokevirtual 94, 3) := by decide +kernel
theorem dX2_isSpelled_26 : decode cX2_isSpelled 26 = .ok (.aload_n 0, 1) := by decide +kernel
theorem dX2_isSpelled_27 : decode cX2_isSpelled 27 = .ok (.getfield 30, 3) := by decide +kernel
theorem dX2_isSpelled_30 : decode cX2_isSpelled 30 = .ok (.iload_n 1, 1) := by decide +kernel
theorem dX2_isSpelled_31 : decode cX2_isSpelled 31 = .ok (.iload 4, 2) := by decide +kernel
theorem dX2_isSpelled_33 : decode cX2_isSpelled 33 = .ok (.iadd, 1) := by decide +kernel
theorem dX2_isSpelled_34 : decode cX2_isSpelled 34 = .ok (.iload_n 2, 1) := by decide +kernel
theorem dX2_isSpelled_35 : decode cX2_isSpelled 35 = .ok (.isub, 1) := by decide +kernel
theorem dX2_isSpelled_36 : decode cX2_isSpelled 36 = .ok (.invokevirtual 51, 3) := by decide +kernel
theorem dX2_isSpelled_39 : decode cX2_isSpelled 39 = .ok (.if_icmp .eq 5, 3) := by decide +kernel
theorem dX2_isSpelled_42 : decode cX2_isSpelled 42 = .ok (.iconst 0, 1) := by decide +kernel
theorem dX2_isSpelled_43 : decode cX2_isSpelled 43 = .ok (.ireturn, 1) := by decide +kernel
theorem dX2_isSpelled_44 : decode cX2_isSpelled 44 = .ok (.iinc 4 1, 3) := by decide +kernel
theorem dX2_isSpelled_47 : decode cX2_isSpelled 47 = .ok (.goto (-44), 3) := by decide +kernel
theorem dX2_isSpelled_50 : decode cX2_isSpelled 50 = .ok (.iconst 1, 1) := by decide +kernel
theorem dX2_isSpelled_51 : decode cX2_isSpelled 51 = .ok (.ireturn, 1) := by decide +kernel
theorem dX2_wordCode_0 : decode cX2_wordCode 0 = .ok (.bipush 12, 2) := by decide +kernel
theorem dX2_wordCode_2 : decode cX2_wordCode 2 = .ok (.istore_n 3, 1) := by decide +kernel
theorem dX2_wordCode_3 : decode cX2_wordCode 3 = .ok (.iconst 0, 1) := by decide +kernel
theorem dX2_wordCode_4 : decode cX2_wordCode 4 = .ok (.istore 4, 2) := by decide +kernel
theorem dX2_wordCode_6 : decode cX2_wordCode 6 = .ok (.iconst 0, 1) := by decide +kernel
theorem dX2_wordCode_7 : decode cX2_wordCode 7 = .ok (.istore 5, 2) := by decide +kernel
theorem dX2_wordCode_9 : decode cX2_wordCode 9 = .ok (.iload 5, 2) := by decide +kernel
theorem dX2_wordCode_11 : decode cX2_wordCode 11 = .ok (.ldc 87, 2) := by decide +kernel
theorem dX2_wordCode_13 : decode cX2_wordCode 13 = .ok (.invokevirtual 89, 3) := by decide +kernel
theorem dX2_wordCode_16 : decode cX2_wordCode 16 = .ok (.if_icmp .ge 55, 3) := by decide +kernel
theorem dX2_wordCode_19 : decode cX2_wordCode 19 = .ok (.ldc 87, 2) := by decide +kernel
theorem dX2_wordCode_21 : decode cX2_wordCode 21 = .ok (.iload 5, 2) := by decide +kernel
theorem dX2_wordCode_23 : decode cX2_wordCode 23 = .ok (.invokevirtual 94, 3) := by decide +kernel
theorem dX2_wordCode_26 : decode cX2_wordCode 26 = .ok (.bipush 32, 2) := by decide +kernel
theorem dX2_wordCode_28 : decode cX2_wordCode 28 = .ok (.if_icmp .ne 37, 3) := by decide +kernel
theorem dX2_wordCode_31 : decode cX2_wordCode 31 = .ok (.iload 5, 2) := by decide +kernel
theorem dX2_wordCode_33 : decode cX2_wordCode 33 = .ok (.iload 4, 2) := by decide +kernel
theorem dX2_wordCode_35 : decode cX2_wordCode 35 = .ok (.isub, 1) := by decide +kernel
theorem dX2_wordCode_36 : decode cX2_wordCode 36 = .ok (.iload_n 2, 1) := by decide +kernel
theorem dX2_wordCode_37 : decode cX2_wordCode 37 = .ok (.iload_n 1, 1) := by decide +kernel
theorem dX2_wordCode_38 : decode cX2_wordCode 38 = .ok (.isub, 1) := by decide +kernel
theorem dX2_wordCode_39 : decode cX2_wordCode 39 = .ok (.if_icmp .ne 17, 3) := by decide +kernel
theorem dX2_wordCode_42 : decode cX2_wordCode 42 = .ok (.aload_n 0, 1) := by decide +kernel
theorem dX2_wordCode_43 : decode cX2_wordCode 43 = .ok (.iload_n 1, 1) := by decide +kernel
theorem dX2_wordCode_44 : decode cX2_wordCode 44 = .ok (.iload 4, 2) := by decide +kernel
theorem dX2_wordCode_46 : decode cX2_wordCode 46 = .ok (.iload 5, 2) := by decide +kernel
theorem dX2_wordCode_48 : decode cX2_wordCode 48 = .ok (.invokevirtual 98, 3) := by decide +kernel
theorem dX2_wordCode_51 : decode cX2_wordCode 51 = .ok (.ifCond .eq 5, 3) := by decide +kernel
theorem dX2_wordCode_54 : decode cX2_wordCode 54 = .ok (.iload_n 3, 1) := by decide +kernel
theorem dX2_wordCode_55 : decode cX2_wordCode 55 = .ok (.ireturn, 1) := by decide +kernel
theorem dX2_wordCode_56 : decode cX2_wordCode 56 = .ok (.iinc 3 1, 3) := by decide +kernel
theorem dX2_wordCode_59 : decode cX2_wordCode 59 = .ok (.iload 5, 2) := by decide +kernel
theorem dX2_wordCode_61 : decode cX2_wordCode 61 = .ok (.iconst 1, 1) := by decide +kernel
theorem dX2_wordCode_62 : decode cX2_wordCode 62 = .ok (.iadd, 1) := by decide +kernel
theorem dX2_wordCode_63 : decode cX2_wordCode 63 = .ok (.istore 4, 2) := by decide +kernel
theorem dX2_wordCode_65 : decode cX2_wordCode 65 = .ok (.iinc 5 1, 3) := by decide +kernel
theorem dX2_wordCode_68 : decode cX2_wordCode 68 = .ok (.goto (-59), 3) := by decide +kernel
theorem dX2_wordCode_71 : decode cX2_wordCode 71 = .ok (.iconst (-1), 1) := by decide +kernel
theorem dX2_wordCode_72 : decode cX2_wordCode 72 = .ok (.ireturn, 1) := by decide +kernel
theorem dX2_codeOf_0 : decode cX2_codeOf 0 = .ok (.aload_n 0, 1) := by decide +kernel
theorem dX2_codeOf_1 : decode cX2_codeOf 1 = .ok (.getfield 30, 3) := by decide +kernel
theorem dX2_codeOf_4 : decode cX2_codeOf 4 = .ok (.iload_n 1, 1) := by decide +kernel
theorem dX2_codeOf_5 : decode cX2_codeOf 5 = .ok (.invokevirtual 51, 3) := by decide +kernel
theorem dX2_codeOf_8 : decode cX2_codeOf 8 = .ok (.istore_n 3, 1) := by decide +kernel
theorem dX2_codeOf_9 : decode cX2_codeOf 9 = .ok (.iload_n 3, 1) := by decide +kernel
theorem dX2_codeOf_10 : decode cX2_codeOf 10 = .ok (.invokestatic 78, 3) := by decide +kernel
theorem dX2_codeOf_13 : decode cX2_codeOf 13 = .ok (.ifCond .eq 10, 3) := by decide +kernel
theorem dX2_codeOf_16 : decode cX2_codeOf 16 = .ok (.aload_n 0, 1) := by decide +kernel
theorem dX2_codeOf_17 : decode cX2_codeOf 17 = .ok (.iload_n 1, 1) := by decide +kernel
theorem dX2_codeOf_18 : decode cX2_codeOf 18 = .ok (.iload_n 2, 1) := by decide +kernel
theorem dX2_codeOf_19 : decode cX2_codeOf 19 = .ok (.invokevirtual 84, 3) := by decide +kernel
theorem dX2_codeOf_22 : decode cX2_codeOf 22 = .ok (.ireturn, 1) := by decide +kernel
theorem dX2_codeOf_23 : decode cX2_codeOf 23 = .ok (.iload_n 3, 1) := by decide +kernel
theorem dX2_codeOf_24 : decode cX2_codeOf 24 = .ok (.invokestatic 81, 3) := by decide +kernel
theorem dX2_codeOf_27 : decode cX2_codeOf 27 = .ok (.ifCond .eq 19, 3) := by decide +kernel
theorem dX2_codeOf_30 : decode cX2_codeOf 30 = .ok (.iload_n 2, 1) := by decide +kernel
theorem dX2_codeOf_31 : decode cX2_codeOf 31 = .ok (.iload_n 1, 1) := by decide +kernel
theorem dX2_codeOf_32 : decode cX2_codeOf 32 = .ok (.isub, 1) := by decide +kernel
theorem dX2_codeOf_33 : decode cX2_codeOf 33 = .ok (.iconst 1, 1) := by decide +kernel
theorem dX2_codeOf_34 : decode cX2_codeOf 34 = .ok (.if_icmp .ne 10, 3) := by decide +kernel
theorem dX2_codeOf_37 : decode cX2_codeOf 37 = .ok (.iload_n 3, 1) := by decide +kernel
theorem dX2_codeOf_38 : decode cX2_codeOf 38 = .ok (.bipush 48, 2) := by decide +kernel
theorem dX2_codeOf_40 : decode cX2_codeOf 40 = .ok (.isub, 1) := by decide +kernel
theorem dX2_codeOf_41 : decode cX2_codeOf 41 = .ok (.goto 4, 3) := by decide +kernel
theorem dX2_codeOf_44 : decode cX2_codeOf 44 = .ok (.iconst (-1), 1) := by decide +kernel
theorem dX2_codeOf_45 : decode cX2_codeOf 45 = .ok (.ireturn, 1) := by decide +kernel
theorem dX2_codeOf_46 : decode cX2_codeOf 46 = .ok (.iload_n 3, 1) := by decide +kernel
theorem dX2_codeOf_47 : decode cX2_codeOf 47 = .ok (.bipush 59, 2) := by decide +kernel
theorem dX2_codeOf_49 : decode cX2_codeOf 49 = .ok (.if_icmp .ne 8, 3) := by decide +kernel
theorem dX2_codeOf_52 : decode cX2_codeOf 52 = .ok (.bipush 10, 2) := by decide +kernel
theorem dX2_codeOf_54 : decode cX2_codeOf 54 = .ok (.goto 4, 3) := by decide +kernel
theorem dX2_codeOf_57 : decode cX2_codeOf 57 = .ok (.iconst (-1), 1) := by decide +kernel
theorem dX2_codeOf_58 : decode cX2_codeOf 58 = .ok (.ireturn, 1) := by decide +kernel
theorem dX2_cutIntoTokens_0 : decode cX2_cutIntoTokens 0 = .ok (.aload_n 0, 1) := by decide +kernel
theorem dX2_cutIntoTokens_1 : decode cX2_cutIntoTokens 1 = .ok (.getfield 14, 3) := by decide +kernel
theorem dX2_cutIntoTokens_4 : decode cX2_cutIntoTokens 4 = .ok (.invokevirtual 58, 3) := by decide +kernel
theorem dX2_cutIntoTokens_7 : decode cX2_cutIntoTokens 7 = .ok (.pop, 1) := by decide +kernel
theorem dX2_cutIntoTokens_8 : decode cX2_cutIntoTokens 8 = .ok (.aload_n 0, 1) := by decide +kernel
theorem dX2_cutIntoTokens_9 : decode cX2_cutIntoTokens 9 = .ok (.getfield 20, 3) := by decide +kernel
theorem dX2_cutIntoTokens_12 : decode cX2_cutIntoTokens 12 = .ok (.invokevirtual 58, 3) := by decide +kernel
theorem dX2_cutIntoTokens_15 : decode cX2_cutIntoTokens 15 = .ok (.pop, 1) := by decide +kernel
theorem dX2_cutIntoTokens_16 : decode cX2_cutIntoTokens 16 = .ok (.iconst 0, 1) := by decide +kernel
theorem dX2_cutIntoTokens_17 : decode cX2_cutIntoTokens 17 = .ok (.istore_n 1, 1) := by decide +kernel
theorem dX2_cutIntoTokens_18 : decode cX2_cutIntoTokens 18 = .ok (.iload_n 1, 1) := by decide +kernel
theorem dX2_cutIntoTokens_19 : decode cX2_cutIntoTokens 19 = .ok (.aload_n 0, 1) := by decide +kernel
theorem dX2_cutIntoTokens_20 : decode cX2_cutIntoTokens 20 = .ok (.getfield 30, 3) := by decide +kernel
theorem dX2_cutIntoTokens_23 : decode cX2_cutIntoTokens 23 = .ok (.invokevirtual 62, 3) := by decide +kernel
theorem dX2_cutIntoTokens_26 : decode cX2_cutIntoTokens 26 = .ok (.if_icmp .ge 44, 3) := by decide +kernel
theorem dX2_cutIntoTokens_29 : decode cX2_cutIntoTokens 29 = .ok (.aload_n 0, 1) := by decide +kernel
theorem dX2_cutIntoTokens_30 : decode cX2_cutIntoTokens 30 = .ok (.iload_n 1, 1) := by decide +kernel
theorem dX2_cutIntoTokens_31 : decode cX2_cutIntoTokens 31 = .ok (.invokevirtual 65, 3) := by decide +kernel
theorem dX2_cutIntoTokens_34 : decode cX2_cutIntoTokens 34 = .ok (.ifCond .eq 30, 3) := by decide +kernel
theorem dX2_cutIntoTokens_37 : decode cX2_cutIntoTokens 37 = .ok (.aload_n 0, 1) := by decide +kernel
theorem dX2_cutIntoTokens_38 : decode cX2_cutIntoTokens 38 = .ok (.getfield 14, 3) := by decide +kernel
theorem dX2_cutIntoTokens_41 : decode cX2_cutIntoTokens 41 = .ok (.aload_n 0, 1) := by decide +kernel
theorem dX2_cutIntoTokens_42 : decode cX2_cutIntoTokens 42 = .ok (.iload_n 1, 1) := by decide +kernel
theorem dX2_cutIntoTokens_43 : decode cX2_cutIntoTokens 43 = .ok (.aload_n 0, 1) := by decide +kernel
theorem dX2_cutIntoTokens_44 : decode cX2_cutIntoTokens 44 = .ok (.iload_n 1, 1) := by decide +kernel
theorem dX2_cutIntoTokens_45 : decode cX2_cutIntoTokens 45 = .ok (.invokevirtual 68, 3) := by decide +kernel
theorem dX2_cutIntoTokens_48 : decode cX2_cutIntoTokens 48 = .ok (.invokevirtual 71, 3) := by decide +kernel
theorem dX2_cutIntoTokens_51 : decode cX2_cutIntoTokens 51 = .ok (.invokevirtual 75, 3) := by decide +kernel
theorem dX2_cutIntoTokens_54 : decode cX2_cutIntoTokens 54 = .ok (.pop, 1) := by decide +kernel
theorem dX2_cutIntoTokens_55 : decode cX2_cutIntoTokens 55 = .ok (.aload_n 0, 1) := by decide +kernel
theorem dX2_cutIntoTokens_56 : decode cX2_cutIntoTokens 56 = .ok (.getfield 20, 3) := by decide +kernel
theorem dX2_cutIntoTokens_59 : decode cX2_cutIntoTokens 59 = .ok (.iload_n 1, 1) := by decide +kernel
theorem dX2_cutIntoTokens_60 : decode cX2_cutIntoTokens 60 = .ok (.invokevirtual 75, 3) := by decide +kernel
theorem dX2_cutIntoTokens_63 : decode cX2_cutIntoTokens 63 = .ok (.pop, 1) := by decide +kernel
theorem dX2_cutIntoTokens_64 : decode cX2_cutIntoTokens 64 = .ok (.iinc 1 1, 3) := by decide +kernel
theorem dX2_cutIntoTokens_67 : decode cX2_cutIntoTokens 67 = .ok (.goto (-49), 3) := by decide +kernel
theorem dX2_cutIntoTokens_70 : decode cX2_cutIntoTokens 70 = .ok (.aload_n 0, 1) := by decide +kernel
theorem dX2_cutIntoTokens_71 : decode cX2_cutIntoTokens 71 = .ok (.getfield 14, 3) := by decide +kernel
theorem dX2_cutIntoTokens_74 : decode cX2_cutIntoTokens 74 = .ok (.bipush 11, 2) := by decide +kernel
theorem dX2_cutIntoTokens_76 : decode cX2_cutIntoTokens 76 = .ok (.invokevirtual 75, 3) := by decide +kernel
theorem dX2_cutIntoTokens_79 : decode cX2_cutIntoTokens 79 = .ok (.pop, 1) := by decide +kernel
theorem dX2_cutIntoTokens_80 : decode cX2_cutIntoTokens 80 = .ok (.aload_n 0, 1) := by decide +kernel
theorem dX2_cutIntoTokens_81 : decode cX2_cutIntoTokens 81 = .ok (.getfield 20, 3) := by decide +kernel
theorem dX2_cutIntoTokens_84 : decode cX2_cutIntoTokens 84 = .ok (.aload_n 0, 1) := by decide +kernel
theorem dX2_cutIntoTokens_85 : decode cX2_cutIntoTokens 85 = .ok (.getfield 30, 3) := by decide +kernel
theorem dX2_cutIntoTokens_88 : decode cX2_cutIntoTokens 88 = .ok (.invokevirtual 62, 3) := by decide +kernel
theorem dX2_cutIntoTokens_91 : decode cX2_cutIntoTokens 91 = .ok (.invokevirtual 75, 3) := by decide +kernel
theorem dX2_cutIntoTokens_94 : decode cX2_cutIntoTokens 94 = .ok (.pop, 1) := by decide +kernel
theorem dX2_cutIntoTokens_95 : decode cX2_cutIntoTokens 95 = .ok (.return_, 1) := by decide +kernel
theorem dX8_isFull_0 : decode cX8_isFull 0 = .ok (.aload_n 0, 1) := by decide +kernel
theorem dX8_isFull_1 : decode cX8_isFull 1 = .ok (.getfield 34, 3) := by decide +kernel
theorem dX8_isFull_4 : decode cX8_isFull 4 = .ok (.ifCond .lt 11, 3) := by decide +kernel
theorem dX8_isFull_7 : decode cX8_isFull 7 = .ok (.aload_n 0, 1) := by decide +kernel
theorem dX8_isFull_8 : decode cX8_isFull 8 = .ok (.getfield 34, 3) := by decide +kernel
theorem dX8_isFull_11 : decode cX8_isFull 11 = .ok (.iconst 5, 1) := by decide +kernel
theorem dX8_isFull_12 : decode cX8_isFull 12 = .ok (.if_icmp .lt 7, 3) := by decide +kernel
theorem dX8_isFull_15 : decode cX8_isFull 15 = .ok (.iconst 1, 1) := by decide +kernel
theorem dX8_isFull_16 : decode cX8_isFull 16 = .ok (.goto 4, 3) := by decide +kernel
theorem dX8_isFull_19 : decode cX8_isFull 19 = .ok (.iconst 0, 1) := by decide +kernel
theorem dX8_isFull_20 : decode cX8_isFull 20 = .ok (.ireturn, 1) := by decide +kernel
theorem dX2_lastNumberBehind_0 : decode cX2_lastNumberBehind 0 = .ok (.iload_n 1, 1) := by decide +kernel
theorem dX2_lastNumberBehind_1 : decode cX2_lastNumberBehind 1 = .ok (.tableswitch 119 12 28 #[83, 85, 85, 85, 95, 119, 119, 119, 105, 85, 85, 113, 105, 105, 119, 119, 116], 83) := by decide +kernel
theorem dX2_lastNumberBehind_84 : decode cX2_lastNumberBehind 84 = .ok (.iconst 3, 1) := by decide +kernel
theorem dX2_lastNumberBehind_85 : decode cX2_lastNumberBehind 85 = .ok (.ireturn, 1) := by decide +kernel
theorem dX2_lastNumberBehind_86 : decode cX2_lastNumberBehind 86 = .ok (.aload_n 0, 1) := by decide +kernel
theorem dX2_lastNumberBehind_87 : decode cX2_lastNumberBehind 87 = .ok (.getfield 26, 3) := by decide +kernel
theorem dX2_lastNumberBehind_90 : decode cX2_lastNumberBehind 90 = .ok (.invokevirtual 139, 3) := by decide +kernel
theorem dX2_lastNumberBehind_93 : decode cX2_lastNumberBehind 93 = .ok (.iconst 1, 1) := by decide +kernel
theorem dX2_lastNumberBehind_94 : decode cX2_lastNumberBehind 94 = .ok (.isub, 1) := by decide +kernel
theorem dX2_lastNumberBehind_95 : decode cX2_lastNumberBehind 95 = .ok (.ireturn, 1) := by decide +kernel
theorem dX2_lastNumberBehind_96 : decode cX2_lastNumberBehind 96 = .ok (.aload_n 0, 1) := by decide +kernel
theorem dX2_lastNumberBehind_97 : decode cX2_lastNumberBehind 97 = .ok (.getfield 26, 3) := by decide +kernel
theorem dX2_lastNumberBehind_100 : decode cX2_lastNumberBehind 100 = .ok (.invokevirtual 142, 3) := by decide +kernel
theorem dX2_lastNumberBehind_103 : decode cX2_lastNumberBehind 103 = .ok (.iconst 1, 1) := by decide +kernel
theorem dX2_lastNumberBehind_104 : decode cX2_lastNumberBehind 104 = .ok (.isub, 1) := by decide +kernel
theorem dX2_lastNumberBehind_105 : decode cX2_lastNumberBehind 105 = .ok (.ireturn, 1) := by decide +kernel
theorem dX2_lastNumberBehind_106 : decode cX2_lastNumberBehind 106 = .ok (.aload_n 0, 1) := by decide +kernel
theorem dX2_lastNumberBehind_107 : decode cX2_lastNumberBehind 107 = .ok (.getfield 26, 3) := by decide +kernel
theorem dX2_lastNumberBehind_110 : decode cX2_lastNumberBehind 110 = .ok (.invokevirtual 142, 3) := by decide +kernel
theorem dX2_lastNumberBehind_113 : decode cX2_lastNumberBehind 113 = .ok (.ireturn, 1) := by decide +kernel
theorem dX2_lastNumberBehind_114 : decode cX2_lastNumberBehind 114 = .ok (.bipush 6, 2) := by decide +kernel
theorem dX2_lastNumberBehind_116 : decode cX2_lastNumberBehind 116 = .ok (.ireturn, 1) := by decide +kernel
theorem dX2_lastNumberBehind_117 : decode cX2_lastNumberBehind 117 = .ok (.bipush 7, 2) := by decide +kernel
theorem dX2_lastNumberBehind_119 : decode cX2_lastNumberBehind 119 = .ok (.ireturn, 1) := by decide +kernel
theorem dX2_lastNumberBehind_120 : decode cX2_lastNumberBehind 120 = .ok (.iconst 1, 1) := by decide +kernel
theorem dX2_lastNumberBehind_121 : decode cX2_lastNumberBehind 121 = .ok (.ireturn, 1) := by decide +kernel
theorem dX2_takeNumberBehind_0 : decode cX2_takeNumberBehind 0 = .ok (.aload_n 0, 1) := by decide +kernel
theorem dX2_takeNumberBehind_1 : decode cX2_takeNumberBehind 1 = .ok (.getfield 14, 3) := by decide +kernel
theorem dX2_takeNumberBehind_4 : decode cX2_takeNumberBehind 4 = .ok (.aload_n 0, 1) := by decide +kernel
theorem dX2_takeNumberBehind_5 : decode cX2_takeNumberBehind 5 = .ok (.getfield 44, 3) := by decide +kernel
theorem dX2_takeNumberBehind_8 : decode cX2_takeNumberBehind 8 = .ok (.invokevirtual 51, 3) := by decide +kernel
theorem dX2_takeNumberBehind_11 : decode cX2_takeNumberBehind 11 = .ok (.istore_n 2, 1) := by decide +kernel
theorem dX2_takeNumberBehind_12 : decode cX2_takeNumberBehind 12 = .ok (.iload_n 1, 1) := by decide +kernel
theorem dX2_takeNumberBehind_13 : decode cX2_takeNumberBehind 13 = .ok (.bipush 12, 2) := by decide +kernel
theorem dX2_takeNumberBehind_15 : decode cX2_takeNumberBehind 15 = .ok (.if_icmp .eq 9, 3) := by decide +kernel
theorem dX2_takeNumberBehind_18 : decode cX2_takeNumberBehind 18 = .ok (.iload_n 1, 1) := by decide +kernel
theorem dX2_takeNumberBehind_19 : decode cX2_takeNumberBehind 19 = .ok (.bipush 28, 2) := by decide +kernel
theorem dX2_takeNumberBehind_21 : decode cX2_takeNumberBehind 21 = .ok (.if_icmp .ne 7, 3) := by decide +kernel
theorem dX2_takeNumberBehind_24 : decode cX2_takeNumberBehind 24 = .ok (.iconst 1, 1) := by decide +kernel
theorem dX2_takeNumberBehind_25 : decode cX2_takeNumberBehind 25 = .ok (.goto 4, 3) := by decide +kernel
theorem dX2_takeNumberBehind_28 : decode cX2_takeNumberBehind 28 = .ok (.iconst 0, 1) := by decide +kernel
theorem dX2_takeNumberBehind_29 : decode cX2_takeNumberBehind 29 = .ok (.istore_n 3, 1) := by decide +kernel
theorem dX2_takeNumberBehind_30 : decode cX2_takeNumberBehind 30 = .ok (.iload_n 2, 1) := by decide +kernel
theorem dX2_takeNumberBehind_31 : decode cX2_takeNumberBehind 31 = .ok (.iload_n 3, 1) := by decide +kernel
theorem dX2_takeNumberBehind_32 : decode cX2_takeNumberBehind 32 = .ok (.if_icmp .lt 18, 3) := by decide +kernel
theorem dX2_takeNumberBehind_35 : decode cX2_takeNumberBehind 35 = .ok (.iload_n 2, 1) := by decide +kernel
theorem dX2_takeNumberBehind_36 : decode cX2_takeNumberBehind 36 = .ok (.bipush 9, 2) := by decide +kernel
theorem dX2_takeNumberBehind_38 : decode cX2_takeNumberBehind 38 = .ok (.if_icmp .gt 12, 3) := by decide +kernel
theorem dX2_takeNumberBehind_41 : decode cX2_takeNumberBehind 41 = .ok (.iload_n 2, 1) := by decide +kernel
theorem dX2_takeNumberBehind_42 : decode cX2_takeNumberBehind 42 = .ok (.aload_n 0, 1) := by decide +kernel
theorem dX2_takeNumberBehind_43 : decode cX2_takeNumberBehind 43 = .ok (.iload_n 1, 1) := by decide +kernel
theorem dX2_takeNumberBehind_44 : decode cX2_takeNumberBehind 44 = .ok (.invokevirtual 136, 3) := by decide +kernel
theorem dX2_takeNumberBehind_47 : decode cX2_takeNumberBehind 47 = .ok (.if_icmp .le 5, 3) := by decide +kernel
theorem dX2_takeNumberBehind_50 : decode cX2_takeNumberBehind 50 = .ok (.iconst (-1), 1) := by decide +kernel
theorem dX2_takeNumberBehind_51 : decode cX2_takeNumberBehind 51 = .ok (.ireturn, 1) := by decide +kernel
theorem dX2_takeNumberBehind_52 : decode cX2_takeNumberBehind 52 = .ok (.aload_n 0, 1) := by decide +kernel
theorem dX2_takeNumberBehind_53 : decode cX2_takeNumberBehind 53 = .ok (.dup, 1) := by decide +kernel
theorem dX2_takeNumberBehind_54 : decode cX2_takeNumberBehind 54 = .ok (.getfield 44, 3) := by decide +kernel
theorem dX2_takeNumberBehind_57 : decode cX2_takeNumberBehind 57 = .ok (.iconst 1, 1) := by decide +kernel
theorem dX2_takeNumberBehind_58 : decode cX2_takeNumberBehind 58 = .ok (.iadd, 1) := by decide +kernel
theorem dX2_takeNumberBehind_59 : decode cX2_takeNumberBehind 59 = .ok (.putfield 44, 3) := by decide +kernel
theorem dX2_takeNumberBehind_62 : decode cX2_takeNumberBehind 62 = .ok (.iload_n 2, 1) := by decide +kernel
theorem dX2_takeNumberBehind_63 : decode cX2_takeNumberBehind 63 = .ok (.ireturn, 1) := by decide +kernel
theorem dX2_takes_0 : decode cX2_takes 0 = .ok (.aload_n 0, 1) := by decide +kernel
theorem dX2_takes_1 : decode cX2_takes 1 = .ok (.getfield 14, 3) := by decide +kernel
theorem dX2_takes_4 : decode cX2_takes 4 = .ok (.aload_n 0, 1) := by decide +kernel
theorem dX2_takes_5 : decode cX2_takes 5 = .ok (.getfield 44, 3) := by decide +kernel
theorem dX2_takes_8 : decode cX2_takes 8 = .ok (.invokevirtual 51, 3) := by decide +kernel
theorem dX2_takes_11 : decode cX2_takes 11 = .ok (.iload_n 1, 1) := by decide +kernel
theorem dX2_takes_12 : decode cX2_takes 12 = .ok (.if_icmp .eq 5, 3) := by decide +kernel
theorem dX2_takes_15 : decode cX2_takes 15 = .ok (.iconst 0, 1) := by decide +kernel
theorem dX2_takes_16 : decode cX2_takes 16 = .ok (.ireturn, 1) := by decide +kernel
theorem dX2_takes_17 : decode cX2_takes 17 = .ok (.aload_n 0, 1) := by decide +kernel
theorem dX2_takes_18 : decode cX2_takes 18 = .ok (.dup, 1) := by decide +kernel
theorem dX2_takes_19 : decode cX2_takes 19 = .ok (.getfield 44, 3) := by decide +kernel
theorem dX2_takes_22 : decode cX2_takes 22 = .ok (.iconst 1, 1) := by decide +kernel
theorem dX2_takes_23 : decode cX2_takes 23 = .ok (.iadd, 1) := by decide +kernel
theorem dX2_takes_24 : decode cX2_takes 24 = .ok (.putfield 44, 3) := by decide +kernel
theorem dX2_takes_27 : decode cX2_takes 27 = .ok (.iconst 1, 1) := by decide +kernel
theorem dX2_takes_28 : decode cX2_takes 28 = .ok (.ireturn, 1) := by decide +kernel
theorem dX8_beginSpell_0 : decode cX8_beginSpell 0 = .ok (.aload_n 0, 1) := by decide +kernel
theorem dX8_beginSpell_1 : decode cX8_beginSpell 1 = .ok (.invokevirtual 49, 3) := by decide +kernel
theorem dX8_beginSpell_4 : decode cX8_beginSpell 4 = .ok (.ifCond .ne 43, 3) := by decide +kernel
theorem dX8_beginSpell_7 : decode cX8_beginSpell 7 = .ok (.aload_n 0, 1) := by decide +kernel
theorem dX8_beginSpell_8 : decode cX8_beginSpell 8 = .ok (.getfield 15, 3) := by decide +kernel
theorem dX8_beginSpell_11 : decode cX8_beginSpell 11 = .ok (.aload_n 0, 1) := by decide +kernel
theorem dX8_beginSpell_12 : decode cX8_beginSpell 12 = .ok (.getfield 34, 3) := by decide +kernel
theorem dX8_beginSpell_15 : decode cX8_beginSpell 15 = .ok (.iload_n 1, 1) := by decide +kernel
theorem dX8_beginSpell_16 : decode cX8_beginSpell 16 = .ok (.iastore, 1) := by decide +kernel
theorem dX8_beginSpell_17 : decode cX8_beginSpell 17 = .ok (.aload_n 0, 1) := by decide +kernel
theorem dX8_beginSpell_18 : decode cX8_beginSpell 18 = .ok (.getfield 19, 3) := by decide +kernel
theorem dX8_beginSpell_21 : decode cX8_beginSpell 21 = .ok (.aload_n 0, 1) := by decide +kernel
theorem dX8_beginSpell_22 : decode cX8_beginSpell 22 = .ok (.getfield 34, 3) := by decide +kernel
theorem dX8_beginSpell_25 : decode cX8_beginSpell 25 = .ok (.iload_n 2, 1) := by decide +kernel
theorem dX8_beginSpell_26 : decode cX8_beginSpell 26 = .ok (.iastore, 1) := by decide +kernel
theorem dX8_beginSpell_27 : decode cX8_beginSpell 27 = .ok (.aload_n 0, 1) := by decide +kernel
theorem dX8_beginSpell_28 : decode cX8_beginSpell 28 = .ok (.getfield 25, 3) := by decide +kernel
theorem dX8_beginSpell_31 : decode cX8_beginSpell 31 = .ok (.aload_n 0, 1) := by decide +kernel
theorem dX8_beginSpell_32 : decode cX8_beginSpell 32 = .ok (.getfield 34, 3) := by decide +kernel
theorem dX8_beginSpell_35 : decode cX8_beginSpell 35 = .ok (.iconst 0, 1) := by decide +kernel
theorem dX8_beginSpell_36 : decode cX8_beginSpell 36 = .ok (.iastore, 1) := by decide +kernel
theorem dX8_beginSpell_37 : decode cX8_beginSpell 37 = .ok (.aload_n 0, 1) := by decide +kernel
theorem dX8_beginSpell_38 : decode cX8_beginSpell 38 = .ok (.getfield 22, 3) := by decide +kernel
theorem dX8_beginSpell_41 : decode cX8_beginSpell 41 = .ok (.aload_n 0, 1) := by decide +kernel
theorem dX8_beginSpell_42 : decode cX8_beginSpell 42 = .ok (.getfield 34, 3) := by decide +kernel
theorem dX8_beginSpell_45 : decode cX8_beginSpell 45 = .ok (.iconst (-1), 1) := by decide +kernel
theorem dX8_beginSpell_46 : decode cX8_beginSpell 46 = .ok (.iastore, 1) := by decide +kernel
theorem dX8_beginSpell_47 : decode cX8_beginSpell 47 = .ok (.return_, 1) := by decide +kernel
theorem dX8_addTerm_0 : decode cX8_addTerm 0 = .ok (.aload_n 0, 1) := by decide +kernel
theorem dX8_addTerm_1 : decode cX8_addTerm 1 = .ok (.invokevirtual 49, 3) := by decide +kernel
theorem dX8_addTerm_4 : decode cX8_addTerm 4 = .ok (.ifCond .ne 72, 3) := by decide +kernel
theorem dX8_addTerm_7 : decode cX8_addTerm 7 = .ok (.aload_n 0, 1) := by decide +kernel
theorem dX8_addTerm_8 : decode cX8_addTerm 8 = .ok (.getfield 25, 3) := by decide +kernel
theorem dX8_addTerm_11 : decode cX8_addTerm 11 = .ok (.aload_n 0, 1) := by decide +kernel
theorem dX8_addTerm_12 : decode cX8_addTerm 12 = .ok (.getfield 34, 3) := by decide +kernel
theorem dX8_addTerm_15 : decode cX8_addTerm 15 = .ok (.iaload, 1) := by decide +kernel
theorem dX8_addTerm_16 : decode cX8_addTerm 16 = .ok (.ifCond .lt 60, 3) := by decide +kernel
theorem dX8_addTerm_19 : decode cX8_addTerm 19 = .ok (.aload_n 0, 1) := by decide +kernel
theorem dX8_addTerm_20 : decode cX8_addTerm 20 = .ok (.getfield 25, 3) := by decide +kernel
theorem dX8_addTerm_23 : decode cX8_addTerm 23 = .ok (.aload_n 0, 1) := by decide +kernel
theorem dX8_addTerm_24 : decode cX8_addTerm 24 = .ok (.getfield 34, 3) := by decide +kernel
theorem dX8_addTerm_27 : decode cX8_addTerm 27 = .ok (.iaload, 1) := by decide +kernel
theorem dX8_addTerm_28 : decode cX8_addTerm 28 = .ok (.iconst 3, 1) := by decide +kernel
theorem dX8_addTerm_29 : decode cX8_addTerm 29 = .ok (.if_icmp .ge 47, 3) := by decide +kernel
theorem dX8_addTerm_32 : decode cX8_addTerm 32 = .ok (.aload_n 0, 1) := by decide +kernel
theorem dX8_addTerm_33 : decode cX8_addTerm 33 = .ok (.getfield 34, 3) := by decide +kernel
theorem dX8_addTerm_36 : decode cX8_addTerm 36 = .ok (.iconst 3, 1) := by decide +kernel
theorem dX8_addTerm_37 : decode cX8_addTerm 37 = .ok (.imul, 1) := by decide +kernel
theorem dX8_addTerm_38 : decode cX8_addTerm 38 = .ok (.aload_n 0, 1) := by decide +kernel
theorem dX8_addTerm_39 : decode cX8_addTerm 39 = .ok (.getfield 25, 3) := by decide +kernel
theorem dX8_addTerm_42 : decode cX8_addTerm 42 = .ok (.aload_n 0, 1) := by decide +kernel
theorem dX8_addTerm_43 : decode cX8_addTerm 43 = .ok (.getfield 34, 3) := by decide +kernel
theorem dX8_addTerm_46 : decode cX8_addTerm 46 = .ok (.iaload, 1) := by decide +kernel
theorem dX8_addTerm_47 : decode cX8_addTerm 47 = .ok (.iadd, 1) := by decide +kernel
theorem dX8_addTerm_48 : decode cX8_addTerm 48 = .ok (.istore_n 3, 1) := by decide +kernel
theorem dX8_addTerm_49 : decode cX8_addTerm 49 = .ok (.aload_n 0, 1) := by decide +kernel
theorem dX8_addTerm_50 : decode cX8_addTerm 50 = .ok (.getfield 28, 3) := by decide +kernel
theorem dX8_addTerm_53 : decode cX8_addTerm 53 = .ok (.iload_n 3, 1) := by decide +kernel
theorem dX8_addTerm_54 : decode cX8_addTerm 54 = .ok (.iload_n 1, 1) := by decide +kernel
theorem dX8_addTerm_55 : decode cX8_addTerm 55 = .ok (.iastore, 1) := by decide +kernel
theorem dX8_addTerm_56 : decode cX8_addTerm 56 = .ok (.aload_n 0, 1) := by decide +kernel
theorem dX8_addTerm_57 : decode cX8_addTerm 57 = .ok (.getfield 31, 3) := by decide +kernel
theorem dX8_addTerm_60 : decode cX8_addTerm 60 = .ok (.iload_n 3, 1) := by decide +kernel
theorem dX8_addTerm_61 : decode cX8_addTerm 61 = .ok (.iload_n 2, 1) := by decide +kernel
theorem dX8_addTerm_62 : decode cX8_addTerm 62 = .ok (.iastore, 1) := by decide +kernel
theorem dX8_addTerm_63 : decode cX8_addTerm 63 = .ok (.aload_n 0, 1) := by decide +kernel
theorem dX8_addTerm_64 : decode cX8_addTerm 64 = .ok (.getfield 25, 3) := by decide +kernel
theorem dX8_addTerm_67 : decode cX8_addTerm 67 = .ok (.aload_n 0, 1) := by decide +kernel
theorem dX8_addTerm_68 : decode cX8_addTerm 68 = .ok (.getfield 34, 3) := by decide +kernel
theorem dX8_addTerm_71 : decode cX8_addTerm 71 = .ok (.dup2, 1) := by decide +kernel
theorem dX8_addTerm_72 : decode cX8_addTerm 72 = .ok (.iaload, 1) := by decide +kernel
theorem dX8_addTerm_73 : decode cX8_addTerm 73 = .ok (.iconst 1, 1) := by decide +kernel
theorem dX8_addTerm_74 : decode cX8_addTerm 74 = .ok (.iadd, 1) := by decide +kernel
theorem dX8_addTerm_75 : decode cX8_addTerm 75 = .ok (.iastore, 1) := by decide +kernel
theorem dX8_addTerm_76 : decode cX8_addTerm 76 = .ok (.return_, 1) := by decide +kernel
theorem dX2_readTerm_0 : decode cX2_readTerm 0 = .ok (.aload_n 0, 1) := by decide +kernel
theorem dX2_readTerm_1 : decode cX2_readTerm 1 = .ok (.getfield 14, 3) := by decide +kernel
theorem dX2_readTerm_4 : decode cX2_readTerm 4 = .ok (.aload_n 0, 1) := by decide +kernel
theorem dX2_readTerm_5 : decode cX2_readTerm 5 = .ok (.getfield 44, 3) := by decide +kernel
theorem dX2_readTerm_8 : decode cX2_readTerm 8 = .ok (.invokevirtual 51, 3) := by decide +kernel
theorem dX2_readTerm_11 : decode cX2_readTerm 11 = .ok (.istore_n 1, 1) := by decide +kernel
theorem dX2_readTerm_12 : decode cX2_readTerm 12 = .ok (.iload_n 1, 1) := by decide +kernel
theorem dX2_readTerm_13 : decode cX2_readTerm 13 = .ok (.bipush 21, 2) := by decide +kernel
theorem dX2_readTerm_15 : decode cX2_readTerm 15 = .ok (.if_icmp .lt 9, 3) := by decide +kernel
theorem dX2_readTerm_18 : decode cX2_readTerm 18 = .ok (.iload_n 1, 1) := by decide +kernel
theorem dX2_readTerm_19 : decode cX2_readTerm 19 = .ok (.bipush 28, 2) := by decide +kernel
theorem dX2_readTerm_21 : decode cX2_readTerm 21 = .ok (.if_icmp .le 5, 3) := by decide +kernel
theorem dX2_readTerm_24 : decode cX2_readTerm 24 = .ok (.iconst 0, 1) := by decide +kernel
theorem dX2_readTerm_25 : decode cX2_readTerm 25 = .ok (.ireturn, 1) := by decide +kernel
theorem dX2_readTerm_26 : decode cX2_readTerm 26 = .ok (.aload_n 0, 1) := by decide +kernel
theorem dX2_readTerm_27 : decode cX2_readTerm 27 = .ok (.dup, 1) := by decide +kernel
theorem dX2_readTerm_28 : decode cX2_readTerm 28 = .ok (.getfield 44, 3) := by decide +kernel
theorem dX2_readTerm_31 : decode cX2_readTerm 31 = .ok (.iconst 1, 1) := by decide +kernel
theorem dX2_readTerm_32 : decode cX2_readTerm 32 = .ok (.iadd, 1) := by decide +kernel
theorem dX2_readTerm_33 : decode cX2_readTerm 33 = .ok (.putfield 44, 3) := by decide +kernel
theorem dX2_readTerm_36 : decode cX2_readTerm 36 = .ok (.aload_n 0, 1) := by decide +kernel
theorem dX2_readTerm_37 : decode cX2_readTerm 37 = .ok (.iload_n 1, 1) := by decide +kernel
theorem dX2_readTerm_38 : decode cX2_readTerm 38 = .ok (.invokevirtual 108, 3) := by decide +kernel
theorem dX2_readTerm_41 : decode cX2_readTerm 41 = .ok (.istore_n 2, 1) := by decide +kernel
theorem dX2_readTerm_42 : decode cX2_readTerm 42 = .ok (.iload_n 2, 1) := by decide +kernel
theorem dX2_readTerm_43 : decode cX2_readTerm 43 = .ok (.iconst (-1), 1) := by decide +kernel
theorem dX2_readTerm_44 : decode cX2_readTerm 44 = .ok (.if_icmp .ne 5, 3) := by decide +kernel
theorem dX2_readTerm_47 : decode cX2_readTerm 47 = .ok (.iconst 0, 1) := by decide +kernel
theorem dX2_readTerm_48 : decode cX2_readTerm 48 = .ok (.ireturn, 1) := by decide +kernel
theorem dX2_readTerm_49 : decode cX2_readTerm 49 = .ok (.aload_n 0, 1) := by decide +kernel
theorem dX2_readTerm_50 : decode cX2_readTerm 50 = .ok (.getfield 26, 3) := by decide +kernel
theorem dX2_readTerm_53 : decode cX2_readTerm 53 = .ok (.iload_n 1, 1) := by decide +kernel
theorem dX2_readTerm_54 : decode cX2_readTerm 54 = .ok (.bipush 21, 2) := by decide +kernel
theorem dX2_readTerm_56 : decode cX2_readTerm 56 = .ok (.isub, 1) := by decide +kernel
theorem dX2_readTerm_57 : decode cX2_readTerm 57 = .ok (.iload_n 2, 1) := by decide +kernel
theorem dX2_readTerm_58 : decode cX2_readTerm 58 = .ok (.invokevirtual 133, 3) := by decide +kernel
theorem dX2_readTerm_61 : decode cX2_readTerm 61 = .ok (.iconst 1, 1) := by decide +kernel
theorem dX2_readTerm_62 : decode cX2_readTerm 62 = .ok (.ireturn, 1) := by decide +kernel
theorem dX8_endSpell_0 : decode cX8_endSpell 0 = .ok (.aload_n 0, 1) := by decide +kernel
theorem dX8_endSpell_1 : decode cX8_endSpell 1 = .ok (.invokevirtual 49, 3) := by decide +kernel
theorem dX8_endSpell_4 : decode cX8_endSpell 4 = .ok (.ifCond .ne 23, 3) := by decide +kernel
theorem dX8_endSpell_7 : decode cX8_endSpell 7 = .ok (.aload_n 0, 1) := by decide +kernel
theorem dX8_endSpell_8 : decode cX8_endSpell 8 = .ok (.getfield 22, 3) := by decide +kernel
theorem dX8_endSpell_11 : decode cX8_endSpell 11 = .ok (.aload_n 0, 1) := by decide +kernel
theorem dX8_endSpell_12 : decode cX8_endSpell 12 = .ok (.getfield 34, 3) := by decide +kernel
theorem dX8_endSpell_15 : decode cX8_endSpell 15 = .ok (.iload_n 1, 1) := by decide +kernel
theorem dX8_endSpell_16 : decode cX8_endSpell 16 = .ok (.iastore, 1) := by decide +kernel
theorem dX8_endSpell_17 : decode cX8_endSpell 17 = .ok (.aload_n 0, 1) := by decide +kernel
theorem dX8_endSpell_18 : decode cX8_endSpell 18 = .ok (.dup, 1) := by decide +kernel
theorem dX8_endSpell_19 : decode cX8_endSpell 19 = .ok (.getfield 34, 3) := by decide +kernel
theorem dX8_endSpell_22 : decode cX8_endSpell 22 = .ok (.iconst 1, 1) := by decide +kernel
theorem dX8_endSpell_23 : decode cX8_endSpell 23 = .ok (.iadd, 1) := by decide +kernel
theorem dX8_endSpell_24 : decode cX8_endSpell 24 = .ok (.putfield 34, 3) := by decide +kernel
theorem dX8_endSpell_27 : decode cX8_endSpell 27 = .ok (.return_, 1) := by decide +kernel
theorem dX2_readSpell_0 : decode cX2_readSpell 0 = .ok (.aload_n 0, 1) := by decide +kernel
theorem dX2_readSpell_1 : decode cX2_readSpell 1 = .ok (.getfield 26, 3) := by decide +kernel
theorem dX2_readSpell_4 : decode cX2_readSpell 4 = .ok (.invokevirtual 120, 3) := by decide +kernel
theorem dX2_readSpell_7 : decode cX2_readSpell 7 = .ok (.ifCond .eq 5, 3) := by decide +kernel
theorem dX2_readSpell_10 : decode cX2_readSpell 10 = .ok (.iconst 0, 1) := by decide +kernel
theorem dX2_readSpell_11 : decode cX2_readSpell 11 = .ok (.ireturn, 1) := by decide +kernel
theorem dX2_readSpell_12 : decode cX2_readSpell 12 = .ok (.aload_n 0, 1) := by decide +kernel
theorem dX2_readSpell_13 : decode cX2_readSpell 13 = .ok (.dup, 1) := by decide +kernel
theorem dX2_readSpell_14 : decode cX2_readSpell 14 = .ok (.getfield 44, 3) := by decide +kernel
theorem dX2_readSpell_17 : decode cX2_readSpell 17 = .ok (.iconst 1, 1) := by decide +kernel
theorem dX2_readSpell_18 : decode cX2_readSpell 18 = .ok (.iadd, 1) := by decide +kernel
theorem dX2_readSpell_19 : decode cX2_readSpell 19 = .ok (.putfield 44, 3) := by decide +kernel
theorem dX2_readSpell_22 : decode cX2_readSpell 22 = .ok (.aload_n 0, 1) := by decide +kernel
theorem dX2_readSpell_23 : decode cX2_readSpell 23 = .ok (.iload_n 1, 1) := by decide +kernel
theorem dX2_readSpell_24 : decode cX2_readSpell 24 = .ok (.invokevirtual 108, 3) := by decide +kernel
theorem dX2_readSpell_27 : decode cX2_readSpell 27 = .ok (.istore_n 2, 1) := by decide +kernel
theorem dX2_readSpell_28 : decode cX2_readSpell 28 = .ok (.iload_n 2, 1) := by decide +kernel
theorem dX2_readSpell_29 : decode cX2_readSpell 29 = .ok (.iconst (-1), 1) := by decide +kernel
theorem dX2_readSpell_30 : decode cX2_readSpell 30 = .ok (.if_icmp .eq 12, 3) := by decide +kernel
theorem dX2_readSpell_33 : decode cX2_readSpell 33 = .ok (.aload_n 0, 1) := by decide +kernel
theorem dX2_readSpell_34 : decode cX2_readSpell 34 = .ok (.bipush 18, 2) := by decide +kernel
theorem dX2_readSpell_36 : decode cX2_readSpell 36 = .ok (.invokevirtual 54, 3) := by decide +kernel
theorem dX2_readSpell_39 : decode cX2_readSpell 39 = .ok (.ifCond .ne 5, 3) := by decide +kernel
theorem dX2_readSpell_42 : decode cX2_readSpell 42 = .ok (.iconst 0, 1) := by decide +kernel
theorem dX2_readSpell_43 : decode cX2_readSpell 43 = .ok (.ireturn, 1) := by decide +kernel
theorem dX2_readSpell_44 : decode cX2_readSpell 44 = .ok (.aload_n 0, 1) := by decide +kernel
theorem dX2_readSpell_45 : decode cX2_readSpell 45 = .ok (.getfield 26, 3) := by decide +kernel
theorem dX2_readSpell_48 : decode cX2_readSpell 48 = .ok (.iload_n 1, 1) := by decide +kernel
theorem dX2_readSpell_49 : decode cX2_readSpell 49 = .ok (.bipush 13, 2) := by decide +kernel
theorem dX2_readSpell_51 : decode cX2_readSpell 51 = .ok (.isub, 1) := by decide +kernel
theorem dX2_readSpell_52 : decode cX2_readSpell 52 = .ok (.iload_n 2, 1) := by decide +kernel
theorem dX2_readSpell_53 : decode cX2_readSpell 53 = .ok (.invokevirtual 123, 3) := by decide +kernel
theorem dX2_readSpell_56 : decode cX2_readSpell 56 = .ok (.iconst 0, 1) := by decide +kernel
theorem dX2_readSpell_57 : decode cX2_readSpell 57 = .ok (.istore_n 3, 1) := by decide +kernel
theorem dX2_readSpell_58 : decode cX2_readSpell 58 = .ok (.iload_n 3, 1) := by decide +kernel
theorem dX2_readSpell_59 : decode cX2_readSpell 59 = .ok (.iconst 3, 1) := by decide +kernel
theorem dX2_readSpell_60 : decode cX2_readSpell 60 = .ok (.if_icmp .ge 31, 3) := by decide +kernel
theorem dX2_readSpell_63 : decode cX2_readSpell 63 = .ok (.iload_n 3, 1) := by decide +kernel
theorem dX2_readSpell_64 : decode cX2_readSpell 64 = .ok (.ifCond .eq 12, 3) := by decide +kernel
theorem dX2_readSpell_67 : decode cX2_readSpell 67 = .ok (.aload_n 0, 1) := by decide +kernel
theorem dX2_readSpell_68 : decode cX2_readSpell 68 = .ok (.bipush 19, 2) := by decide +kernel
theorem dX2_readSpell_70 : decode cX2_readSpell 70 = .ok (.invokevirtual 54, 3) := by decide +kernel
theorem dX2_readSpell_73 : decode cX2_readSpell 73 = .ok (.ifCond .eq 18, 3) := by decide +kernel
theorem dX2_readSpell_76 : decode cX2_readSpell 76 = .ok (.aload_n 0, 1) := by decide +kernel
theorem dX2_readSpell_77 : decode cX2_readSpell 77 = .ok (.invokevirtual 127, 3) := by decide +kernel
theorem dX2_readSpell_80 : decode cX2_readSpell 80 = .ok (.ifCond .ne 5, 3) := by decide +kernel
theorem dX2_readSpell_83 : decode cX2_readSpell 83 = .ok (.iconst 0, 1) := by decide +kernel
theorem dX2_readSpell_84 : decode cX2_readSpell 84 = .ok (.ireturn, 1) := by decide +kernel
theorem dX2_readSpell_85 : decode cX2_readSpell 85 = .ok (.iinc 3 1, 3) := by decide +kernel
theorem dX2_readSpell_88 : decode cX2_readSpell 88 = .ok (.goto (-30), 3) := by decide +kernel
theorem dX2_readSpell_91 : decode cX2_readSpell 91 = .ok (.iconst (-1), 1) := by decide +kernel
theorem dX2_readSpell_92 : decode cX2_readSpell 92 = .ok (.istore_n 3, 1) := by decide +kernel
theorem dX2_readSpell_93 : decode cX2_readSpell 93 = .ok (.aload_n 0, 1) := by decide +kernel
theorem dX2_readSpell_94 : decode cX2_readSpell 94 = .ok (.bipush 20, 2) := by decide +kernel
theorem dX2_readSpell_96 : decode cX2_readSpell 96 = .ok (.invokevirtual 54, 3) := by decide +kernel
theorem dX2_readSpell_99 : decode cX2_readSpell 99 = .ok (.ifCond .eq 17, 3) := by decide +kernel
theorem dX2_readSpell_102 : decode cX2_readSpell 102 = .ok (.aload_n 0, 1) := by decide +kernel
theorem dX2_readSpell_103 : decode cX2_readSpell 103 = .ok (.bipush 20, 2) := by decide +kernel
theorem dX2_readSpell_105 : decode cX2_readSpell 105 = .ok (.invokevirtual 108, 3) := by decide +kernel
theorem dX2_readSpell_108 : decode cX2_readSpell 108 = .ok (.istore_n 3, 1) := by decide +kernel
theorem dX2_readSpell_109 : decode cX2_readSpell 109 = .ok (.iload_n 3, 1) := by decide +kernel
theorem dX2_readSpell_110 : decode cX2_readSpell 110 = .ok (.iconst (-1), 1) := by decide +kernel
theorem dX2_readSpell_111 : decode cX2_readSpell 111 = .ok (.if_icmp .ne 5, 3) := by decide +kernel
theorem dX2_readSpell_114 : decode cX2_readSpell 114 = .ok (.iconst 0, 1) := by decide +kernel
theorem dX2_readSpell_115 : decode cX2_readSpell 115 = .ok (.ireturn, 1) := by decide +kernel
theorem dX2_readSpell_116 : decode cX2_readSpell 116 = .ok (.aload_n 0, 1) := by decide +kernel
theorem dX2_readSpell_117 : decode cX2_readSpell 117 = .ok (.getfield 26, 3) := by decide +kernel
theorem dX2_readSpell_120 : decode cX2_readSpell 120 = .ok (.iload_n 3, 1) := by decide +kernel
theorem dX2_readSpell_121 : decode cX2_readSpell 121 = .ok (.invokevirtual 130, 3) := by decide +kernel
theorem dX2_readSpell_124 : decode cX2_readSpell 124 = .ok (.iconst 1, 1) := by decide +kernel
theorem dX2_readSpell_125 : decode cX2_readSpell 125 = .ok (.ireturn, 1) := by decide +kernel
theorem dX8_tellBare_0 : decode cX8_tellBare 0 = .ok (.aload_n 0, 1) := by decide +kernel
theorem dX8_tellBare_1 : decode cX8_tellBare 1 = .ok (.iconst 0, 1) := by decide +kernel
theorem dX8_tellBare_2 : decode cX8_tellBare 2 = .ok (.putfield 34, 3) := by decide +kernel
theorem dX8_tellBare_5 : decode cX8_tellBare 5 = .ok (.return_, 1) := by decide +kernel
theorem dX8_tellPeople_0 : decode cX8_tellPeople 0 = .ok (.aload_n 0, 1) := by decide +kernel
theorem dX8_tellPeople_1 : decode cX8_tellPeople 1 = .ok (.iload_n 1, 1) := by decide +kernel
theorem dX8_tellPeople_2 : decode cX8_tellPeople 2 = .ok (.putfield 9, 3) := by decide +kernel
theorem dX8_tellPeople_5 : decode cX8_tellPeople 5 = .ok (.aload_n 0, 1) := by decide +kernel
theorem dX8_tellPeople_6 : decode cX8_tellPeople 6 = .ok (.iconst 0, 1) := by decide +kernel
theorem dX8_tellPeople_7 : decode cX8_tellPeople 7 = .ok (.putfield 34, 3) := by decide +kernel
theorem dX8_tellPeople_10 : decode cX8_tellPeople 10 = .ok (.aload_n 0, 1) := by decide +kernel
theorem dX8_tellPeople_11 : decode cX8_tellPeople 11 = .ok (.iconst 0, 1) := by decide +kernel
theorem dX8_tellPeople_12 : decode cX8_tellPeople 12 = .ok (.putfield 40, 3) := by decide +kernel
theorem dX8_tellPeople_15 : decode cX8_tellPeople 15 = .ok (.aload_n 0, 1) := by decide +kernel
theorem dX8_tellPeople_16 : decode cX8_tellPeople 16 = .ok (.iconst 0, 1) := by decide +kernel
theorem dX8_tellPeople_17 : decode cX8_tellPeople 17 = .ok (.putfield 37, 3) := by decide +kernel
theorem dX8_tellPeople_20 : decode cX8_tellPeople 20 = .ok (.return_, 1) := by decide +kernel
theorem dX8_tellDay_0 : decode cX8_tellDay 0 = .ok (.aload_n 0, 1) := by decide +kernel
theorem dX8_tellDay_1 : decode cX8_tellDay 1 = .ok (.iload_n 1, 1) := by decide +kernel
theorem dX8_tellDay_2 : decode cX8_tellDay 2 = .ok (.putfield 37, 3) := by decide +kernel
theorem dX8_tellDay_5 : decode cX8_tellDay 5 = .ok (.return_, 1) := by decide +kernel
theorem dX8_tellBroken_0 : decode cX8_tellBroken 0 = .ok (.aload_n 0, 1) := by decide +kernel
theorem dX8_tellBroken_1 : decode cX8_tellBroken 1 = .ok (.dup, 1) := by decide +kernel
theorem dX8_tellBroken_2 : decode cX8_tellBroken 2 = .ok (.getfield 40, 3) := by decide +kernel
theorem dX8_tellBroken_5 : decode cX8_tellBroken 5 = .ok (.iconst 1, 1) := by decide +kernel
theorem dX8_tellBroken_6 : decode cX8_tellBroken 6 = .ok (.iload_n 1, 1) := by decide +kernel
theorem dX8_tellBroken_7 : decode cX8_tellBroken 7 = .ok (.ishl, 1) := by decide +kernel
theorem dX8_tellBroken_8 : decode cX8_tellBroken 8 = .ok (.ior, 1) := by decide +kernel
theorem dX8_tellBroken_9 : decode cX8_tellBroken 9 = .ok (.putfield 40, 3) := by decide +kernel
theorem dX8_tellBroken_12 : decode cX8_tellBroken 12 = .ok (.return_, 1) := by decide +kernel
theorem dX2_readLine_0 : decode cX2_readLine 0 = .ok (.aload_n 0, 1) := by decide +kernel
theorem dX2_readLine_1 : decode cX2_readLine 1 = .ok (.getfield 14, 3) := by decide +kernel
theorem dX2_readLine_4 : decode cX2_readLine 4 = .ok (.aload_n 0, 1) := by decide +kernel
theorem dX2_readLine_5 : decode cX2_readLine 5 = .ok (.getfield 44, 3) := by decide +kernel
theorem dX2_readLine_8 : decode cX2_readLine 8 = .ok (.invokevirtual 51, 3) := by decide +kernel
theorem dX2_readLine_11 : decode cX2_readLine 11 = .ok (.istore_n 1, 1) := by decide +kernel
theorem dX2_readLine_12 : decode cX2_readLine 12 = .ok (.iload_n 1, 1) := by decide +kernel
theorem dX2_readLine_13 : decode cX2_readLine 13 = .ok (.bipush 13, 2) := by decide +kernel
theorem dX2_readLine_15 : decode cX2_readLine 15 = .ok (.if_icmp .lt 15, 3) := by decide +kernel
theorem dX2_readLine_18 : decode cX2_readLine 18 = .ok (.iload_n 1, 1) := by decide +kernel
theorem dX2_readLine_19 : decode cX2_readLine 19 = .ok (.bipush 16, 2) := by decide +kernel
theorem dX2_readLine_21 : decode cX2_readLine 21 = .ok (.if_icmp .gt 9, 3) := by decide +kernel
theorem dX2_readLine_24 : decode cX2_readLine 24 = .ok (.aload_n 0, 1) := by decide +kernel
theorem dX2_readLine_25 : decode cX2_readLine 25 = .ok (.iload_n 1, 1) := by decide +kernel
theorem dX2_readLine_26 : decode cX2_readLine 26 = .ok (.invokevirtual 102, 3) := by decide +kernel
theorem dX2_readLine_29 : decode cX2_readLine 29 = .ok (.ireturn, 1) := by decide +kernel
theorem dX2_readLine_30 : decode cX2_readLine 30 = .ok (.aload_n 0, 1) := by decide +kernel
theorem dX2_readLine_31 : decode cX2_readLine 31 = .ok (.bipush 17, 2) := by decide +kernel
theorem dX2_readLine_33 : decode cX2_readLine 33 = .ok (.invokevirtual 54, 3) := by decide +kernel
theorem dX2_readLine_36 : decode cX2_readLine 36 = .ok (.ifCond .eq 12, 3) := by decide +kernel
theorem dX2_readLine_39 : decode cX2_readLine 39 = .ok (.aload_n 0, 1) := by decide +kernel
theorem dX2_readLine_40 : decode cX2_readLine 40 = .ok (.getfield 26, 3) := by decide +kernel
theorem dX2_readLine_43 : decode cX2_readLine 43 = .ok (.invokevirtual 105, 3) := by decide +kernel
theorem dX2_readLine_46 : decode cX2_readLine 46 = .ok (.iconst 1, 1) := by decide +kernel
theorem dX2_readLine_47 : decode cX2_readLine 47 = .ok (.ireturn, 1) := by decide +kernel
theorem dX2_readLine_48 : decode cX2_readLine 48 = .ok (.iload_n 1, 1) := by decide +kernel
theorem dX2_readLine_49 : decode cX2_readLine 49 = .ok (.bipush 12, 2) := by decide +kernel
theorem dX2_readLine_51 : decode cX2_readLine 51 = .ok (.if_icmp .eq 17, 3) := by decide +kernel
theorem dX2_readLine_54 : decode cX2_readLine 54 = .ok (.iload_n 1, 1) := by decide +kernel
theorem dX2_readLine_55 : decode cX2_readLine 55 = .ok (.bipush 23, 2) := by decide +kernel
theorem dX2_readLine_57 : decode cX2_readLine 57 = .ok (.if_icmp .eq 11, 3) := by decide +kernel
theorem dX2_readLine_60 : decode cX2_readLine 60 = .ok (.iload_n 1, 1) := by decide +kernel
theorem dX2_readLine_61 : decode cX2_readLine 61 = .ok (.bipush 26, 2) := by decide +kernel
theorem dX2_readLine_63 : decode cX2_readLine 63 = .ok (.if_icmp .eq 5, 3) := by decide +kernel
theorem dX2_readLine_66 : decode cX2_readLine 66 = .ok (.iconst 0, 1) := by decide +kernel
theorem dX2_readLine_67 : decode cX2_readLine 67 = .ok (.ireturn, 1) := by decide +kernel
theorem dX2_readLine_68 : decode cX2_readLine 68 = .ok (.aload_n 0, 1) := by decide +kernel
theorem dX2_readLine_69 : decode cX2_readLine 69 = .ok (.dup, 1) := by decide +kernel
theorem dX2_readLine_70 : decode cX2_readLine 70 = .ok (.getfield 44, 3) := by decide +kernel
theorem dX2_readLine_73 : decode cX2_readLine 73 = .ok (.iconst 1, 1) := by decide +kernel
theorem dX2_readLine_74 : decode cX2_readLine 74 = .ok (.iadd, 1) := by decide +kernel
theorem dX2_readLine_75 : decode cX2_readLine 75 = .ok (.putfield 44, 3) := by decide +kernel
theorem dX2_readLine_78 : decode cX2_readLine 78 = .ok (.aload_n 0, 1) := by decide +kernel
theorem dX2_readLine_79 : decode cX2_readLine 79 = .ok (.iload_n 1, 1) := by decide +kernel
theorem dX2_readLine_80 : decode cX2_readLine 80 = .ok (.invokevirtual 108, 3) := by decide +kernel
theorem dX2_readLine_83 : decode cX2_readLine 83 = .ok (.istore_n 2, 1) := by decide +kernel
theorem dX2_readLine_84 : decode cX2_readLine 84 = .ok (.iload_n 2, 1) := by decide +kernel
theorem dX2_readLine_85 : decode cX2_readLine 85 = .ok (.iconst (-1), 1) := by decide +kernel
theorem dX2_readLine_86 : decode cX2_readLine 86 = .ok (.if_icmp .ne 5, 3) := by decide +kernel
theorem dX2_readLine_89 : decode cX2_readLine 89 = .ok (.iconst 0, 1) := by decide +kernel
theorem dX2_readLine_90 : decode cX2_readLine 90 = .ok (.ireturn, 1) := by decide +kernel
theorem dX2_readLine_91 : decode cX2_readLine 91 = .ok (.iload_n 1, 1) := by decide +kernel
theorem dX2_readLine_92 : decode cX2_readLine 92 = .ok (.bipush 12, 2) := by decide +kernel
theorem dX2_readLine_94 : decode cX2_readLine 94 = .ok (.if_icmp .ne 14, 3) := by decide +kernel
theorem dX2_readLine_97 : decode cX2_readLine 97 = .ok (.aload_n 0, 1) := by decide +kernel
theorem dX2_readLine_98 : decode cX2_readLine 98 = .ok (.getfield 26, 3) := by decide +kernel
theorem dX2_readLine_101 : decode cX2_readLine 101 = .ok (.iload_n 2, 1) := by decide +kernel
theorem dX2_readLine_102 : decode cX2_readLine 102 = .ok (.invokevirtual 111, 3) := by decide +kernel
theorem dX2_readLine_105 : decode cX2_readLine 105 = .ok (.goto 28, 3) := by decide +kernel
theorem dX2_readLine_108 : decode cX2_readLine 108 = .ok (.iload_n 1, 1) := by decide +kernel
theorem dX2_readLine_109 : decode cX2_readLine 109 = .ok (.bipush 23, 2) := by decide +kernel
theorem dX2_readLine_111 : decode cX2_readLine 111 = .ok (.if_icmp .ne 14, 3) := by decide +kernel
theorem dX2_readLine_114 : decode cX2_readLine 114 = .ok (.aload_n 0, 1) := by decide +kernel
theorem dX2_readLine_115 : decode cX2_readLine 115 = .ok (.getfield 26, 3) := by decide +kernel
theorem dX2_readLine_118 : decode cX2_readLine 118 = .ok (.iload_n 2, 1) := by decide +kernel
theorem dX2_readLine_119 : decode cX2_readLine 119 = .ok (.invokevirtual 114, 3) := by decide +kernel
theorem dX2_readLine_122 : decode cX2_readLine 122 = .ok (.goto 11, 3) := by decide +kernel
theorem dX2_readLine_125 : decode cX2_readLine 125 = .ok (.aload_n 0, 1) := by decide +kernel
theorem dX2_readLine_126 : decode cX2_readLine 126 = .ok (.getfield 26, 3) := by decide +kernel
theorem dX2_readLine_129 : decode cX2_readLine 129 = .ok (.iload_n 2, 1) := by decide +kernel
theorem dX2_readLine_130 : decode cX2_readLine 130 = .ok (.invokevirtual 117, 3) := by decide +kernel
theorem dX2_readLine_133 : decode cX2_readLine 133 = .ok (.iconst 1, 1) := by decide +kernel
theorem dX2_readLine_134 : decode cX2_readLine 134 = .ok (.ireturn, 1) := by decide +kernel
theorem dX2_firstFault_0 : decode cX2_firstFault 0 = .ok (.aload_n 0, 1) := by decide +kernel
theorem dX2_firstFault_1 : decode cX2_firstFault 1 = .ok (.getfield 26, 3) := by decide +kernel
theorem dX2_firstFault_4 : decode cX2_firstFault 4 = .ok (.aload_n 1, 1) := by decide +kernel
theorem dX2_firstFault_5 : decode cX2_firstFault 5 = .ok (.invokevirtual 37, 3) := by decide +kernel
theorem dX2_firstFault_8 : decode cX2_firstFault 8 = .ok (.aload_n 0, 1) := by decide +kernel
theorem dX2_firstFault_9 : decode cX2_firstFault 9 = .ok (.invokevirtual 41, 3) := by decide +kernel
theorem dX2_firstFault_12 : decode cX2_firstFault 12 = .ok (.aload_n 0, 1) := by decide +kernel
theorem dX2_firstFault_13 : decode cX2_firstFault 13 = .ok (.iconst 0, 1) := by decide +kernel
theorem dX2_firstFault_14 : decode cX2_firstFault 14 = .ok (.putfield 44, 3) := by decide +kernel
theorem dX2_firstFault_17 : decode cX2_firstFault 17 = .ok (.aload_n 0, 1) := by decide +kernel
theorem dX2_firstFault_18 : decode cX2_firstFault 18 = .ok (.iconst 1, 1) := by decide +kernel
theorem dX2_firstFault_19 : decode cX2_firstFault 19 = .ok (.putfield 33, 3) := by decide +kernel
theorem dX2_firstFault_22 : decode cX2_firstFault 22 = .ok (.aload_n 0, 1) := by decide +kernel
theorem dX2_firstFault_23 : decode cX2_firstFault 23 = .ok (.getfield 33, 3) := by decide +kernel
theorem dX2_firstFault_26 : decode cX2_firstFault 26 = .ok (.bipush 12, 2) := by decide +kernel
theorem dX2_firstFault_28 : decode cX2_firstFault 28 = .ok (.if_icmp .gt 83, 3) := by decide +kernel
theorem dX2_firstFault_31 : decode cX2_firstFault 31 = .ok (.aload_n 0, 1) := by decide +kernel
theorem dX2_firstFault_32 : decode cX2_firstFault 32 = .ok (.invokevirtual 47, 3) := by decide +kernel
theorem dX2_firstFault_35 : decode cX2_firstFault 35 = .ok (.ifCond .ne 15, 3) := by decide +kernel
theorem dX2_firstFault_38 : decode cX2_firstFault 38 = .ok (.aload_n 0, 1) := by decide +kernel
theorem dX2_firstFault_39 : decode cX2_firstFault 39 = .ok (.getfield 20, 3) := by decide +kernel
theorem dX2_firstFault_42 : decode cX2_firstFault 42 = .ok (.aload_n 0, 1) := by decide +kernel
theorem dX2_firstFault_43 : decode cX2_firstFault 43 = .ok (.getfield 44, 3) := by decide +kernel
theorem dX2_firstFault_46 : decode cX2_firstFault 46 = .ok (.invokevirtual 51, 3) := by decide +kernel
theorem dX2_firstFault_49 : decode cX2_firstFault 49 = .ok (.ireturn, 1) := by decide +kernel
theorem dX2_firstFault_50 : decode cX2_firstFault 50 = .ok (.aload_n 0, 1) := by decide +kernel
theorem dX2_firstFault_51 : decode cX2_firstFault 51 = .ok (.getfield 14, 3) := by decide +kernel
theorem dX2_firstFault_54 : decode cX2_firstFault 54 = .ok (.aload_n 0, 1) := by decide +kernel
theorem dX2_firstFault_55 : decode cX2_firstFault 55 = .ok (.getfield 44, 3) := by decide +kernel
theorem dX2_firstFault_58 : decode cX2_firstFault 58 = .ok (.invokevirtual 51, 3) := by decide +kernel
theorem dX2_firstFault_61 : decode cX2_firstFault 61 = .ok (.bipush 11, 2) := by decide +kernel
theorem dX2_firstFault_63 : decode cX2_firstFault 63 = .ok (.if_icmp .ne 5, 3) := by decide +kernel
theorem dX2_firstFault_66 : decode cX2_firstFault 66 = .ok (.iconst (-1), 1) := by decide +kernel
theorem dX2_firstFault_67 : decode cX2_firstFault 67 = .ok (.ireturn, 1) := by decide +kernel
theorem dX2_firstFault_68 : decode cX2_firstFault 68 = .ok (.aload_n 0, 1) := by decide +kernel
theorem dX2_firstFault_69 : decode cX2_firstFault 69 = .ok (.getfield 33, 3) := by decide +kernel
theorem dX2_firstFault_72 : decode cX2_firstFault 72 = .ok (.bipush 12, 2) := by decide +kernel
theorem dX2_firstFault_74 : decode cX2_firstFault 74 = .ok (.if_icmp .eq 12, 3) := by decide +kernel
theorem dX2_firstFault_77 : decode cX2_firstFault 77 = .ok (.aload_n 0, 1) := by decide +kernel
theorem dX2_firstFault_78 : decode cX2_firstFault 78 = .ok (.bipush 10, 2) := by decide +kernel
theorem dX2_firstFault_80 : decode cX2_firstFault 80 = .ok (.invokevirtual 54, 3) := by decide +kernel
theorem dX2_firstFault_83 : decode cX2_firstFault 83 = .ok (.ifCond .ne 15, 3) := by decide +kernel
theorem dX2_firstFault_86 : decode cX2_firstFault 86 = .ok (.aload_n 0, 1) := by decide +kernel
theorem dX2_firstFault_87 : decode cX2_firstFault 87 = .ok (.getfield 20, 3) := by decide +kernel
theorem dX2_firstFault_90 : decode cX2_firstFault 90 = .ok (.aload_n 0, 1) := by decide +kernel
theorem dX2_firstFault_91 : decode cX2_firstFault 91 = .ok (.getfield 44, 3) := by decide +kernel
theorem dX2_firstFault_94 : decode cX2_firstFault 94 = .ok (.invokevirtual 51, 3) := by decide +kernel
theorem dX2_firstFault_97 : decode cX2_firstFault 97 = .ok (.ireturn, 1) := by decide +kernel
theorem dX2_firstFault_98 : decode cX2_firstFault 98 = .ok (.aload_n 0, 1) := by decide +kernel
theorem dX2_firstFault_99 : decode cX2_firstFault 99 = .ok (.dup, 1) := by decide +kernel
theorem dX2_firstFault_100 : decode cX2_firstFault 100 = .ok (.getfield 33, 3) := by decide +kernel
theorem dX2_firstFault_103 : decode cX2_firstFault 103 = .ok (.iconst 1, 1) := by decide +kernel
theorem dX2_firstFault_104 : decode cX2_firstFault 104 = .ok (.iadd, 1) := by decide +kernel
theorem dX2_firstFault_105 : decode cX2_firstFault 105 = .ok (.putfield 33, 3) := by decide +kernel
theorem dX2_firstFault_108 : decode cX2_firstFault 108 = .ok (.goto (-86), 3) := by decide +kernel
theorem dX2_firstFault_111 : decode cX2_firstFault 111 = .ok (.aload_n 0, 1) := by decide +kernel
theorem dX2_firstFault_112 : decode cX2_firstFault 112 = .ok (.getfield 20, 3) := by decide +kernel
theorem dX2_firstFault_115 : decode cX2_firstFault 115 = .ok (.aload_n 0, 1) := by decide +kernel
theorem dX2_firstFault_116 : decode cX2_firstFault 116 = .ok (.getfield 44, 3) := by decide +kernel
theorem dX2_firstFault_119 : decode cX2_firstFault 119 = .ok (.invokevirtual 51, 3) := by decide +kernel
theorem dX2_firstFault_122 : decode cX2_firstFault 122 = .ok (.ireturn, 1) := by decide +kernel
theorem dX10_fault_0 : decode cX10_fault 0 = .ok (.aload_n 0, 1) := by decide +kernel
theorem dX10_fault_1 : decode cX10_fault 1 = .ok (.getfield 30, 3) := by decide +kernel
theorem dX10_fault_4 : decode cX10_fault 4 = .ok (.aload_n 0, 1) := by decide +kernel
theorem dX10_fault_5 : decode cX10_fault 5 = .ok (.getfield 21, 3) := by decide +kernel
theorem dX10_fault_8 : decode cX10_fault 8 = .ok (.invokevirtual 90, 3) := by decide +kernel
theorem dX10_fault_11 : decode cX10_fault 11 = .ok (.ireturn, 1) := by decide +kernel
theorem dX2_draft_0 : decode cX2_draft 0 = .ok (.aload_n 0, 1) := by decide +kernel
theorem dX2_draft_1 : decode cX2_draft 1 = .ok (.getfield 26, 3) := by decide +kernel
theorem dX2_draft_4 : decode cX2_draft 4 = .ok (.areturn, 1) := by decide +kernel
theorem dX2_lines_0 : decode cX2_lines 0 = .ok (.aload_n 0, 1) := by decide +kernel
theorem dX2_lines_1 : decode cX2_lines 1 = .ok (.getfield 33, 3) := by decide +kernel
theorem dX2_lines_4 : decode cX2_lines 4 = .ok (.ireturn, 1) := by decide +kernel
theorem dX10_land_0 : decode cX10_land 0 = .ok (.aload_n 0, 1) := by decide +kernel
theorem dX10_land_1 : decode cX10_land 1 = .ok (.getfield 30, 3) := by decide +kernel
theorem dX10_land_4 : decode cX10_land 4 = .ok (.aload_n 0, 1) := by decide +kernel
theorem dX10_land_5 : decode cX10_land 5 = .ok (.getfield 21, 3) := by decide +kernel
theorem dX10_land_8 : decode cX10_land 8 = .ok (.invokevirtual 90, 3) := by decide +kernel
theorem dX10_land_11 : decode cX10_land 11 = .ok (.iconst (-1), 1) := by decide +kernel
theorem dX10_land_12 : decode cX10_land 12 = .ok (.if_icmp .eq 6, 3) := by decide +kernel
theorem dX10_land_15 : decode cX10_land 15 = .ok (.bipush (-4), 2) := by decide +kernel
theorem dX10_land_17 : decode cX10_land 17 = .ok (.ireturn, 1) := by decide +kernel
theorem dX10_land_18 : decode cX10_land 18 = .ok (.aload_n 0, 1) := by decide +kernel
theorem dX10_land_19 : decode cX10_land 19 = .ok (.getfield 21, 3) := by decide +kernel
theorem dX10_land_22 : decode cX10_land 22 = .ok (.aload_n 0, 1) := by decide +kernel
theorem dX10_land_23 : decode cX10_land 23 = .ok (.getfield 30, 3) := by decide +kernel
theorem dX10_land_26 : decode cX10_land 26 = .ok (.invokevirtual 94, 3) := by decide +kernel
theorem dX10_land_29 : decode cX10_land 29 = .ok (.invokevirtual 98, 3) := by decide +kernel
theorem dX10_land_32 : decode cX10_land 32 = .ok (.aload_n 0, 1) := by decide +kernel
theorem dX10_land_33 : decode cX10_land 33 = .ok (.getfield 14, 3) := by decide +kernel
theorem dX10_land_36 : decode cX10_land 36 = .ok (.invokevirtual 87, 3) := by decide +kernel
theorem dX10_land_39 : decode cX10_land 39 = .ok (.pop, 1) := by decide +kernel
theorem dX10_land_40 : decode cX10_land 40 = .ok (.aload_n 0, 1) := by decide +kernel
theorem dX10_land_41 : decode cX10_land 41 = .ok (.invokevirtual 76, 3) := by decide +kernel
theorem dX10_land_44 : decode cX10_land 44 = .ok (.aload_n 0, 1) := by decide +kernel
theorem dX10_land_45 : decode cX10_land 45 = .ok (.getfield 30, 3) := by decide +kernel
theorem dX10_land_48 : decode cX10_land 48 = .ok (.invokevirtual 102, 3) := by decide +kernel
theorem dX10_land_51 : decode cX10_land 51 = .ok (.ireturn, 1) := by decide +kernel
theorem dX8_hasPerson_0 : decode cX8_hasPerson 0 = .ok (.iload_n 1, 1) := by decide +kernel
theorem dX8_hasPerson_1 : decode cX8_hasPerson 1 = .ok (.ifCond .lt 15, 3) := by decide +kernel
theorem dX8_hasPerson_4 : decode cX8_hasPerson 4 = .ok (.iload_n 1, 1) := by decide +kernel
theorem dX8_hasPerson_5 : decode cX8_hasPerson 5 = .ok (.aload_n 0, 1) := by decide +kernel
theorem dX8_hasPerson_6 : decode cX8_hasPerson 6 = .ok (.getfield 9, 3) := by decide +kernel
theorem dX8_hasPerson_9 : decode cX8_hasPerson 9 = .ok (.if_icmp .ge 7, 3) := by decide +kernel
theorem dX8_hasPerson_12 : decode cX8_hasPerson 12 = .ok (.iconst 1, 1) := by decide +kernel
theorem dX8_hasPerson_13 : decode cX8_hasPerson 13 = .ok (.goto 4, 3) := by decide +kernel
theorem dX8_hasPerson_16 : decode cX8_hasPerson 16 = .ok (.iconst 0, 1) := by decide +kernel
theorem dX8_hasPerson_17 : decode cX8_hasPerson 17 = .ok (.ireturn, 1) := by decide +kernel
theorem dX6_weepers_0 : decode cX6_weepers 0 = .ok (.iload_n 0, 1) := by decide +kernel
theorem dX6_weepers_1 : decode cX6_weepers 1 = .ok (.bipush 7, 2) := by decide +kernel
theorem dX6_weepers_3 : decode cX6_weepers 3 = .ok (.ishr, 1) := by decide +kernel
theorem dX6_weepers_4 : decode cX6_weepers 4 = .ok (.bipush 7, 2) := by decide +kernel
theorem dX6_weepers_6 : decode cX6_weepers 6 = .ok (.iand, 1) := by decide +kernel
theorem dX6_weepers_7 : decode cX6_weepers 7 = .ok (.ireturn, 1) := by decide +kernel
theorem dX10_oneIf_0 : decode cX10_oneIf 0 = .ok (.iload_n 0, 1) := by decide +kernel
theorem dX10_oneIf_1 : decode cX10_oneIf 1 = .ok (.ifCond .eq 7, 3) := by decide +kernel
theorem dX10_oneIf_4 : decode cX10_oneIf 4 = .ok (.iconst 1, 1) := by decide +kernel
theorem dX10_oneIf_5 : decode cX10_oneIf 5 = .ok (.goto 4, 3) := by decide +kernel
theorem dX10_oneIf_8 : decode cX10_oneIf 8 = .ok (.iconst 0, 1) := by decide +kernel
theorem dX10_oneIf_9 : decode cX10_oneIf 9 = .ok (.ireturn, 1) := by decide +kernel
theorem dX10_person_0 : decode cX10_person 0 = .ok (.aload_n 0, 1) := by decide +kernel
theorem dX10_person_1 : decode cX10_person 1 = .ok (.getfield 21, 3) := by decide +kernel
theorem dX10_person_4 : decode cX10_person 4 = .ok (.iload_n 1, 1) := by decide +kernel
theorem dX10_person_5 : decode cX10_person 5 = .ok (.invokevirtual 128, 3) := by decide +kernel
theorem dX10_person_8 : decode cX10_person 8 = .ok (.ifCond .ne 6, 3) := by decide +kernel
theorem dX10_person_11 : decode cX10_person 11 = .ok (.bipush (-2), 2) := by decide +kernel
theorem dX10_person_13 : decode cX10_person 13 = .ok (.ireturn, 1) := by decide +kernel
theorem dX10_person_14 : decode cX10_person 14 = .ok (.iload_n 2, 1) := by decide +kernel
theorem dX10_person_15 : decode cX10_person 15 = .ok (.ifCond .lt 8, 3) := by decide +kernel
theorem dX10_person_18 : decode cX10_person 18 = .ok (.iload_n 2, 1) := by decide +kernel
theorem dX10_person_19 : decode cX10_person 19 = .ok (.iconst 3, 1) := by decide +kernel
theorem dX10_person_20 : decode cX10_person 20 = .ok (.if_icmp .le 6, 3) := by decide +kernel
theorem dX10_person_23 : decode cX10_person 23 = .ok (.bipush (-3), 2) := by decide +kernel
theorem dX10_person_25 : decode cX10_person 25 = .ok (.ireturn, 1) := by decide +kernel
theorem dX10_person_26 : decode cX10_person 26 = .ok (.iload_n 2, 1) := by decide +kernel
theorem dX10_person_27 : decode cX10_person 27 = .ok (.iconst 3, 1) := by decide +kernel
theorem dX10_person_28 : decode cX10_person 28 = .ok (.if_icmp .ne 15, 3) := by decide +kernel
theorem dX10_person_31 : decode cX10_person 31 = .ok (.aload_n 0, 1) := by decide +kernel
theorem dX10_person_32 : decode cX10_person 32 = .ok (.getfield 114, 3) := by decide +kernel
theorem dX10_person_35 : decode cX10_person 35 = .ok (.invokestatic 131, 3) := by decide +kernel
theorem dX10_person_38 : decode cX10_person 38 = .ok (.iload_n 1, 1) := by decide +kernel
theorem dX10_person_39 : decode cX10_person 39 = .ok (.ishr, 1) := by decide +kernel
theorem dX10_person_40 : decode cX10_person 40 = .ok (.iconst 1, 1) := by decide +kernel
theorem dX10_person_41 : decode cX10_person 41 = .ok (.iand, 1) := by decide +kernel
theorem dX10_person_42 : decode cX10_person 42 = .ok (.ireturn, 1) := by decide +kernel
theorem dX10_person_43 : decode cX10_person 43 = .ok (.aload_n 0, 1) := by decide +kernel
theorem dX10_person_44 : decode cX10_person 44 = .ok (.getfield 114, 3) := by decide +kernel
theorem dX10_person_47 : decode cX10_person 47 = .ok (.aload_n 0, 1) := by decide +kernel
theorem dX10_person_48 : decode cX10_person 48 = .ok (.getfield 37, 3) := by decide +kernel
theorem dX10_person_51 : decode cX10_person 51 = .ok (.iload_n 1, 1) := by decide +kernel
theorem dX10_person_52 : decode cX10_person 52 = .ok (.iload_n 2, 1) := by decide +kernel
theorem dX10_person_53 : decode cX10_person 53 = .ok (.invokevirtual 137, 3) := by decide +kernel
theorem dX10_person_56 : decode cX10_person 56 = .ok (.iand, 1) := by decide +kernel
theorem dX10_person_57 : decode cX10_person 57 = .ok (.ifCond .eq 7, 3) := by decide +kernel
theorem dX10_person_60 : decode cX10_person 60 = .ok (.iconst 1, 1) := by decide +kernel
theorem dX10_person_61 : decode cX10_person 61 = .ok (.goto 4, 3) := by decide +kernel
theorem dX10_person_64 : decode cX10_person 64 = .ok (.iconst 0, 1) := by decide +kernel
theorem dX10_person_65 : decode cX10_person 65 = .ok (.invokestatic 141, 3) := by decide +kernel
theorem dX10_person_68 : decode cX10_person 68 = .ok (.ireturn, 1) := by decide +kernel
theorem dX4_bindersOf_0 : decode cX4_bindersOf 0 = .ok (.iload_n 1, 1) := by decide +kernel
theorem dX4_bindersOf_1 : decode cX4_bindersOf 1 = .ok (.ifCond .lt 8, 3) := by decide +kernel
theorem dX4_bindersOf_4 : decode cX4_bindersOf 4 = .ok (.iload_n 1, 1) := by decide +kernel
theorem dX4_bindersOf_5 : decode cX4_bindersOf 5 = .ok (.iconst 5, 1) := by decide +kernel
theorem dX4_bindersOf_6 : decode cX4_bindersOf 6 = .ok (.if_icmp .lt 7, 3) := by decide +kernel
theorem dX4_bindersOf_9 : decode cX4_bindersOf 9 = .ok (.iconst 0, 1) := by decide +kernel
theorem dX4_bindersOf_10 : decode cX4_bindersOf 10 = .ok (.goto 9, 3) := by decide +kernel
theorem dX4_bindersOf_13 : decode cX4_bindersOf 13 = .ok (.aload_n 0, 1) := by decide +kernel
theorem dX4_bindersOf_14 : decode cX4_bindersOf 14 = .ok (.getfield 27, 3) := by decide +kernel
theorem dX4_bindersOf_17 : decode cX4_bindersOf 17 = .ok (.iload_n 1, 1) := by decide +kernel
theorem dX4_bindersOf_18 : decode cX4_bindersOf 18 = .ok (.iaload, 1) := by decide +kernel
theorem dX4_bindersOf_19 : decode cX4_bindersOf 19 = .ok (.ireturn, 1) := by decide +kernel
theorem dX10_spell_0 : decode cX10_spell 0 = .ok (.aload_n 0, 1) := by decide +kernel
theorem dX10_spell_1 : decode cX10_spell 1 = .ok (.getfield 21, 3) := by decide +kernel
theorem dX10_spell_4 : decode cX10_spell 4 = .ok (.iload_n 1, 1) := by decide +kernel
theorem dX10_spell_5 : decode cX10_spell 5 = .ok (.invokevirtual 145, 3) := by decide +kernel
theorem dX10_spell_8 : decode cX10_spell 8 = .ok (.ifCond .ne 6, 3) := by decide +kernel
theorem dX10_spell_11 : decode cX10_spell 11 = .ok (.bipush (-2), 2) := by decide +kernel
theorem dX10_spell_13 : decode cX10_spell 13 = .ok (.ireturn, 1) := by decide +kernel
theorem dX10_spell_14 : decode cX10_spell 14 = .ok (.iload_n 2, 1) := by decide +kernel
theorem dX10_spell_15 : decode cX10_spell 15 = .ok (.tableswitch 107 0 5 #[37, 46, 55, 64, 89, 98], 37) := by decide +kernel
theorem dX10_spell_52 : decode cX10_spell 52 = .ok (.aload_n 0, 1) := by decide +kernel
theorem dX10_spell_53 : decode cX10_spell 53 = .ok (.getfield 21, 3) := by decide +kernel
theorem dX10_spell_56 : decode cX10_spell 56 = .ok (.iload_n 1, 1) := by decide +kernel
theorem dX10_spell_57 : decode cX10_spell 57 = .ok (.invokevirtual 148, 3) := by decide +kernel
theorem dX10_spell_60 : decode cX10_spell 60 = .ok (.ireturn, 1) := by decide +kernel
theorem dX10_spell_61 : decode cX10_spell 61 = .ok (.aload_n 0, 1) := by decide +kernel
theorem dX10_spell_62 : decode cX10_spell 62 = .ok (.getfield 21, 3) := by decide +kernel
theorem dX10_spell_65 : decode cX10_spell 65 = .ok (.iload_n 1, 1) := by decide +kernel
theorem dX10_spell_66 : decode cX10_spell 66 = .ok (.invokevirtual 151, 3) := by decide +kernel
theorem dX10_spell_69 : decode cX10_spell 69 = .ok (.ireturn, 1) := by decide +kernel
theorem dX10_spell_70 : decode cX10_spell 70 = .ok (.aload_n 0, 1) := by decide +kernel
theorem dX10_spell_71 : decode cX10_spell 71 = .ok (.getfield 114, 3) := by decide +kernel
theorem dX10_spell_74 : decode cX10_spell 74 = .ok (.iload_n 1, 1) := by decide +kernel
theorem dX10_spell_75 : decode cX10_spell 75 = .ok (.ishr, 1) := by decide +kernel
theorem dX10_spell_76 : decode cX10_spell 76 = .ok (.iconst 1, 1) := by decide +kernel
theorem dX10_spell_77 : decode cX10_spell 77 = .ok (.iand, 1) := by decide +kernel
theorem dX10_spell_78 : decode cX10_spell 78 = .ok (.ireturn, 1) := by decide +kernel
theorem dX10_spell_79 : decode cX10_spell 79 = .ok (.aload_n 0, 1) := by decide +kernel
theorem dX10_spell_80 : decode cX10_spell 80 = .ok (.getfield 114, 3) := by decide +kernel
theorem dX10_spell_83 : decode cX10_spell 83 = .ok (.aload_n 0, 1) := by decide +kernel
theorem dX10_spell_84 : decode cX10_spell 84 = .ok (.getfield 37, 3) := by decide +kernel
theorem dX10_spell_87 : decode cX10_spell 87 = .ok (.iload_n 1, 1) := by decide +kernel
theorem dX10_spell_88 : decode cX10_spell 88 = .ok (.invokevirtual 154, 3) := by decide +kernel
theorem dX10_spell_91 : decode cX10_spell 91 = .ok (.iand, 1) := by decide +kernel
theorem dX10_spell_92 : decode cX10_spell 92 = .ok (.ifCond .eq 7, 3) := by decide +kernel
theorem dX10_spell_95 : decode cX10_spell 95 = .ok (.iconst 1, 1) := by decide +kernel
theorem dX10_spell_96 : decode cX10_spell 96 = .ok (.goto 4, 3) := by decide +kernel
theorem dX10_spell_99 : decode cX10_spell 99 = .ok (.iconst 0, 1) := by decide +kernel
theorem dX10_spell_100 : decode cX10_spell 100 = .ok (.invokestatic 141, 3) := by decide +kernel
theorem dX10_spell_103 : decode cX10_spell 103 = .ok (.ireturn, 1) := by decide +kernel
theorem dX10_spell_104 : decode cX10_spell 104 = .ok (.aload_n 0, 1) := by decide +kernel
theorem dX10_spell_105 : decode cX10_spell 105 = .ok (.getfield 21, 3) := by decide +kernel
theorem dX10_spell_108 : decode cX10_spell 108 = .ok (.iload_n 1, 1) := by decide +kernel
theorem dX10_spell_109 : decode cX10_spell 109 = .ok (.invokevirtual 157, 3) := by decide +kernel
theorem dX10_spell_112 : decode cX10_spell 112 = .ok (.ireturn, 1) := by decide +kernel
theorem dX10_spell_113 : decode cX10_spell 113 = .ok (.aload_n 0, 1) := by decide +kernel
theorem dX10_spell_114 : decode cX10_spell 114 = .ok (.getfield 21, 3) := by decide +kernel
theorem dX10_spell_117 : decode cX10_spell 117 = .ok (.iload_n 1, 1) := by decide +kernel
theorem dX10_spell_118 : decode cX10_spell 118 = .ok (.invokevirtual 160, 3) := by decide +kernel
theorem dX10_spell_121 : decode cX10_spell 121 = .ok (.ireturn, 1) := by decide +kernel
theorem dX10_spell_122 : decode cX10_spell 122 = .ok (.bipush (-3), 2) := by decide +kernel
theorem dX10_spell_124 : decode cX10_spell 124 = .ok (.ireturn, 1) := by decide +kernel
theorem dX6_asked_0 : decode cX6_asked 0 = .ok (.iload_n 0, 1) := by decide +kernel
theorem dX6_asked_1 : decode cX6_asked 1 = .ok (.bipush 10, 2) := by decide +kernel
theorem dX6_asked_3 : decode cX6_asked 3 = .ok (.ishr, 1) := by decide +kernel
theorem dX6_asked_4 : decode cX6_asked 4 = .ok (.bipush 7, 2) := by decide +kernel
theorem dX6_asked_6 : decode cX6_asked 6 = .ok (.iand, 1) := by decide +kernel
theorem dX6_asked_7 : decode cX6_asked 7 = .ok (.ireturn, 1) := by decide +kernel
theorem dX7_isSo_0 : decode cX7_isSo 0 = .ok (.iload_n 0, 1) := by decide +kernel
theorem dX7_isSo_1 : decode cX7_isSo 1 = .ok (.ifCond .ne 5, 3) := by decide +kernel
theorem dX7_isSo_4 : decode cX7_isSo 4 = .ok (.iconst 0, 1) := by decide +kernel
theorem dX7_isSo_5 : decode cX7_isSo 5 = .ok (.ireturn, 1) := by decide +kernel
theorem dX7_isSo_6 : decode cX7_isSo 6 = .ok (.iload_n 0, 1) := by decide +kernel
theorem dX7_isSo_7 : decode cX7_isSo 7 = .ok (.bipush 7, 2) := by decide +kernel
theorem dX7_isSo_9 : decode cX7_isSo 9 = .ok (.if_icmp .ne 17, 3) := by decide +kernel
theorem dX7_isSo_12 : decode cX7_isSo 12 = .ok (.iload_n 2, 1) := by decide +kernel
theorem dX7_isSo_13 : decode cX7_isSo 13 = .ok (.invokestatic 9, 3) := by decide +kernel
theorem dX7_isSo_16 : decode cX7_isSo 16 = .ok (.iload_n 1, 1) := by decide +kernel
theorem dX7_isSo_17 : decode cX7_isSo 17 = .ok (.if_icmp .lt 7, 3) := by decide +kernel
theorem dX7_isSo_20 : decode cX7_isSo 20 = .ok (.iconst 1, 1) := by decide +kernel
theorem dX7_isSo_21 : decode cX7_isSo 21 = .ok (.goto 4, 3) := by decide +kernel
theorem dX7_isSo_24 : decode cX7_isSo 24 = .ok (.iconst 0, 1) := by decide +kernel
theorem dX7_isSo_25 : decode cX7_isSo 25 = .ok (.ireturn, 1) := by decide +kernel
theorem dX7_isSo_26 : decode cX7_isSo 26 = .ok (.iload_n 2, 1) := by decide +kernel
theorem dX7_isSo_27 : decode cX7_isSo 27 = .ok (.iload_n 0, 1) := by decide +kernel
theorem dX7_isSo_28 : decode cX7_isSo 28 = .ok (.iload_n 1, 1) := by decide +kernel
theorem dX7_isSo_29 : decode cX7_isSo 29 = .ok (.invokestatic 15, 3) := by decide +kernel
theorem dX7_isSo_32 : decode cX7_isSo 32 = .ok (.iand, 1) := by decide +kernel
theorem dX7_isSo_33 : decode cX7_isSo 33 = .ok (.iload_n 0, 1) := by decide +kernel
theorem dX7_isSo_34 : decode cX7_isSo 34 = .ok (.iload_n 1, 1) := by decide +kernel
theorem dX7_isSo_35 : decode cX7_isSo 35 = .ok (.invokestatic 19, 3) := by decide +kernel
theorem dX7_isSo_38 : decode cX7_isSo 38 = .ok (.if_icmp .ne 7, 3) := by decide +kernel
theorem dX7_isSo_41 : decode cX7_isSo 41 = .ok (.iconst 1, 1) := by decide +kernel
theorem dX7_isSo_42 : decode cX7_isSo 42 = .ok (.goto 4, 3) := by decide +kernel
theorem dX7_isSo_45 : decode cX7_isSo 45 = .ok (.iconst 0, 1) := by decide +kernel
theorem dX7_isSo_46 : decode cX7_isSo 46 = .ok (.ireturn, 1) := by decide +kernel
theorem dX10_isSoNow_0 : decode cX10_isSoNow 0 = .ok (.aload_n 0, 1) := by decide +kernel
theorem dX10_isSoNow_1 : decode cX10_isSoNow 1 = .ok (.getfield 21, 3) := by decide +kernel
theorem dX10_isSoNow_4 : decode cX10_isSoNow 4 = .ok (.iload_n 1, 1) := by decide +kernel
theorem dX10_isSoNow_5 : decode cX10_isSoNow 5 = .ok (.iload_n 2, 1) := by decide +kernel
theorem dX10_isSoNow_6 : decode cX10_isSoNow 6 = .ok (.invokevirtual 163, 3) := by decide +kernel
theorem dX10_isSoNow_9 : decode cX10_isSoNow 9 = .ok (.aload_n 0, 1) := by decide +kernel
theorem dX10_isSoNow_10 : decode cX10_isSoNow 10 = .ok (.getfield 21, 3) := by decide +kernel
theorem dX10_isSoNow_13 : decode cX10_isSoNow 13 = .ok (.iload_n 1, 1) := by decide +kernel
theorem dX10_isSoNow_14 : decode cX10_isSoNow 14 = .ok (.iload_n 2, 1) := by decide +kernel
theorem dX10_isSoNow_15 : decode cX10_isSoNow 15 = .ok (.invokevirtual 166, 3) := by decide +kernel
theorem dX10_isSoNow_18 : decode cX10_isSoNow 18 = .ok (.aload_n 0, 1) := by decide +kernel
theorem dX10_isSoNow_19 : decode cX10_isSoNow 19 = .ok (.getfield 114, 3) := by decide +kernel
theorem dX10_isSoNow_22 : decode cX10_isSoNow 22 = .ok (.invokestatic 181, 3) := by decide +kernel
theorem dX10_isSoNow_25 : decode cX10_isSoNow 25 = .ok (.ireturn, 1) := by decide +kernel
theorem dX10_term_0 : decode cX10_term 0 = .ok (.aload_n 0, 1) := by decide +kernel
theorem dX10_term_1 : decode cX10_term 1 = .ok (.getfield 21, 3) := by decide +kernel
theorem dX10_term_4 : decode cX10_term 4 = .ok (.iload_n 1, 1) := by decide +kernel
theorem dX10_term_5 : decode cX10_term 5 = .ok (.invokevirtual 145, 3) := by decide +kernel
theorem dX10_term_8 : decode cX10_term 8 = .ok (.ifCond .eq 19, 3) := by decide +kernel
theorem dX10_term_11 : decode cX10_term 11 = .ok (.iload_n 2, 1) := by decide +kernel
theorem dX10_term_12 : decode cX10_term 12 = .ok (.ifCond .lt 15, 3) := by decide +kernel
theorem dX10_term_15 : decode cX10_term 15 = .ok (.iload_n 2, 1) := by decide +kernel
theorem dX10_term_16 : decode cX10_term 16 = .ok (.aload_n 0, 1) := by decide +kernel
theorem dX10_term_17 : decode cX10_term 17 = .ok (.getfield 21, 3) := by decide +kernel
theorem dX10_term_20 : decode cX10_term 20 = .ok (.iload_n 1, 1) := by decide +kernel
theorem dX10_term_21 : decode cX10_term 21 = .ok (.invokevirtual 157, 3) := by decide +kernel
theorem dX10_term_24 : decode cX10_term 24 = .ok (.if_icmp .lt 6, 3) := by decide +kernel
theorem dX10_term_27 : decode cX10_term 27 = .ok (.bipush (-2), 2) := by decide +kernel
theorem dX10_term_29 : decode cX10_term 29 = .ok (.ireturn, 1) := by decide +kernel
theorem dX10_term_30 : decode cX10_term 30 = .ok (.iload_n 3, 1) := by decide +kernel
theorem dX10_term_31 : decode cX10_term 31 = .ok (.tableswitch 55 0 2 #[25, 35, 45], 25) := by decide +kernel
theorem dX10_term_56 : decode cX10_term 56 = .ok (.aload_n 0, 1) := by decide +kernel
theorem dX10_term_57 : decode cX10_term 57 = .ok (.getfield 21, 3) := by decide +kernel
theorem dX10_term_60 : decode cX10_term 60 = .ok (.iload_n 1, 1) := by decide +kernel
theorem dX10_term_61 : decode cX10_term 61 = .ok (.iload_n 2, 1) := by decide +kernel
theorem dX10_term_62 : decode cX10_term 62 = .ok (.invokevirtual 163, 3) := by decide +kernel
theorem dX10_term_65 : decode cX10_term 65 = .ok (.ireturn, 1) := by decide +kernel
theorem dX10_term_66 : decode cX10_term 66 = .ok (.aload_n 0, 1) := by decide +kernel
theorem dX10_term_67 : decode cX10_term 67 = .ok (.getfield 21, 3) := by decide +kernel
theorem dX10_term_70 : decode cX10_term 70 = .ok (.iload_n 1, 1) := by decide +kernel
theorem dX10_term_71 : decode cX10_term 71 = .ok (.iload_n 2, 1) := by decide +kernel
theorem dX10_term_72 : decode cX10_term 72 = .ok (.invokevirtual 166, 3) := by decide +kernel
theorem dX10_term_75 : decode cX10_term 75 = .ok (.ireturn, 1) := by decide +kernel
theorem dX10_term_76 : decode cX10_term 76 = .ok (.aload_n 0, 1) := by decide +kernel
theorem dX10_term_77 : decode cX10_term 77 = .ok (.iload_n 1, 1) := by decide +kernel
theorem dX10_term_78 : decode cX10_term 78 = .ok (.iload_n 2, 1) := by decide +kernel
theorem dX10_term_79 : decode cX10_term 79 = .ok (.invokevirtual 169, 3) := by decide +kernel
theorem dX10_term_82 : decode cX10_term 82 = .ok (.invokestatic 141, 3) := by decide +kernel
theorem dX10_term_85 : decode cX10_term 85 = .ok (.ireturn, 1) := by decide +kernel
theorem dX10_term_86 : decode cX10_term 86 = .ok (.bipush (-3), 2) := by decide +kernel
theorem dX10_term_88 : decode cX10_term 88 = .ok (.ireturn, 1) := by decide +kernel
theorem dX1_isA_0 : decode cX1_isA 0 = .ok (.iload_n 0, 1) := by decide +kernel
theorem dX1_isA_1 : decode cX1_isA 1 = .ok (.iconst 2, 1) := by decide +kernel
theorem dX1_isA_2 : decode cX1_isA 2 = .ok (.iadd, 1) := by decide +kernel
theorem dX1_isA_3 : decode cX1_isA 3 = .ok (.istore_n 2, 1) := by decide +kernel
theorem dX1_isA_4 : decode cX1_isA 4 = .ok (.iconst 0, 1) := by decide +kernel
theorem dX1_isA_5 : decode cX1_isA 5 = .ok (.istore_n 3, 1) := by decide +kernel
theorem dX1_isA_6 : decode cX1_isA 6 = .ok (.iload_n 3, 1) := by decide +kernel
theorem dX1_isA_7 : decode cX1_isA 7 = .ok (.iconst 3, 1) := by decide +kernel
theorem dX1_isA_8 : decode cX1_isA 8 = .ok (.if_icmp .ge 34, 3) := by decide +kernel
theorem dX1_isA_11 : decode cX1_isA 11 = .ok (.iload_n 2, 1) := by decide +kernel
theorem dX1_isA_12 : decode cX1_isA 12 = .ok (.ifCond .lt 30, 3) := by decide +kernel
theorem dX1_isA_15 : decode cX1_isA 15 = .ok (.iload_n 2, 1) := by decide +kernel
theorem dX1_isA_16 : decode cX1_isA 16 = .ok (.getstatic 11, 3) := by decide +kernel
theorem dX1_isA_19 : decode cX1_isA 19 = .ok (.arraylength, 1) := by decide +kernel
theorem dX1_isA_20 : decode cX1_isA 20 = .ok (.if_icmp .ge 22, 3) := by decide +kernel
theorem dX1_isA_23 : decode cX1_isA 23 = .ok (.iload_n 2, 1) := by decide +kernel
theorem dX1_isA_24 : decode cX1_isA 24 = .ok (.iload_n 1, 1) := by decide +kernel
theorem dX1_isA_25 : decode cX1_isA 25 = .ok (.if_icmp .ne 5, 3) := by decide +kernel
theorem dX1_isA_28 : decode cX1_isA 28 = .ok (.iconst 1, 1) := by decide +kernel
theorem dX1_isA_29 : decode cX1_isA 29 = .ok (.ireturn, 1) := by decide +kernel
theorem dX1_isA_30 : decode cX1_isA 30 = .ok (.getstatic 11, 3) := by decide +kernel
theorem dX1_isA_33 : decode cX1_isA 33 = .ok (.iload_n 2, 1) := by decide +kernel
theorem dX1_isA_34 : decode cX1_isA 34 = .ok (.iaload, 1) := by decide +kernel
theorem dX1_isA_35 : decode cX1_isA 35 = .ok (.istore_n 2, 1) := by decide +kernel
theorem dX1_isA_36 : decode cX1_isA 36 = .ok (.iinc 3 1, 3) := by decide +kernel
theorem dX1_isA_39 : decode cX1_isA 39 = .ok (.goto (-33), 3) := by decide +kernel
theorem dX1_isA_42 : decode cX1_isA 42 = .ok (.iconst 0, 1) := by decide +kernel
theorem dX1_isA_43 : decode cX1_isA 43 = .ok (.ireturn, 1) := by decide +kernel
theorem dX10_termsSoNow_0 : decode cX10_termsSoNow 0 = .ok (.iconst 0, 1) := by decide +kernel
theorem dX10_termsSoNow_1 : decode cX10_termsSoNow 1 = .ok (.istore_n 2, 1) := by decide +kernel
theorem dX10_termsSoNow_2 : decode cX10_termsSoNow 2 = .ok (.iconst 0, 1) := by decide +kernel
theorem dX10_termsSoNow_3 : decode cX10_termsSoNow 3 = .ok (.istore_n 3, 1) := by decide +kernel
theorem dX10_termsSoNow_4 : decode cX10_termsSoNow 4 = .ok (.iload_n 3, 1) := by decide +kernel
theorem dX10_termsSoNow_5 : decode cX10_termsSoNow 5 = .ok (.iconst 3, 1) := by decide +kernel
theorem dX10_termsSoNow_6 : decode cX10_termsSoNow 6 = .ok (.if_icmp .ge 33, 3) := by decide +kernel
theorem dX10_termsSoNow_9 : decode cX10_termsSoNow 9 = .ok (.iload_n 3, 1) := by decide +kernel
theorem dX10_termsSoNow_10 : decode cX10_termsSoNow 10 = .ok (.aload_n 0, 1) := by decide +kernel
theorem dX10_termsSoNow_11 : decode cX10_termsSoNow 11 = .ok (.getfield 21, 3) := by decide +kernel
theorem dX10_termsSoNow_14 : decode cX10_termsSoNow 14 = .ok (.iload_n 1, 1) := by decide +kernel
theorem dX10_termsSoNow_15 : decode cX10_termsSoNow 15 = .ok (.invokevirtual 157, 3) := by decide +kernel
theorem dX10_termsSoNow_18 : decode cX10_termsSoNow 18 = .ok (.if_icmp .ge 21, 3) := by decide +kernel
theorem dX10_termsSoNow_21 : decode cX10_termsSoNow 21 = .ok (.iload_n 2, 1) := by decide +kernel
theorem dX10_termsSoNow_22 : decode cX10_termsSoNow 22 = .ok (.aload_n 0, 1) := by decide +kernel
theorem dX10_termsSoNow_23 : decode cX10_termsSoNow 23 = .ok (.iload_n 1, 1) := by decide +kernel
theorem dX10_termsSoNow_24 : decode cX10_termsSoNow 24 = .ok (.iload_n 3, 1) := by decide +kernel
theorem dX10_termsSoNow_25 : decode cX10_termsSoNow 25 = .ok (.invokevirtual 169, 3) := by decide +kernel
theorem dX10_termsSoNow_28 : decode cX10_termsSoNow 28 = .ok (.invokestatic 141, 3) := by decide +kernel
theorem dX10_termsSoNow_31 : decode cX10_termsSoNow 31 = .ok (.iadd, 1) := by decide +kernel
theorem dX10_termsSoNow_32 : decode cX10_termsSoNow 32 = .ok (.istore_n 2, 1) := by decide +kernel
theorem dX10_termsSoNow_33 : decode cX10_termsSoNow 33 = .ok (.iinc 3 1, 3) := by decide +kernel
theorem dX10_termsSoNow_36 : decode cX10_termsSoNow 36 = .ok (.goto (-32), 3) := by decide +kernel
theorem dX10_termsSoNow_39 : decode cX10_termsSoNow 39 = .ok (.iload_n 2, 1) := by decide +kernel
theorem dX10_termsSoNow_40 : decode cX10_termsSoNow 40 = .ok (.ireturn, 1) := by decide +kernel
theorem dX10_as_0 : decode cX10_as 0 = .ok (.aload_n 0, 1) := by decide +kernel
theorem dX10_as_1 : decode cX10_as 1 = .ok (.getfield 21, 3) := by decide +kernel
theorem dX10_as_4 : decode cX10_as 4 = .ok (.iload_n 1, 1) := by decide +kernel
theorem dX10_as_5 : decode cX10_as 5 = .ok (.invokevirtual 145, 3) := by decide +kernel
theorem dX10_as_8 : decode cX10_as 8 = .ok (.ifCond .ne 6, 3) := by decide +kernel
theorem dX10_as_11 : decode cX10_as 11 = .ok (.bipush (-2), 2) := by decide +kernel
theorem dX10_as_13 : decode cX10_as 13 = .ok (.ireturn, 1) := by decide +kernel
theorem dX10_as_14 : decode cX10_as 14 = .ok (.iload_n 2, 1) := by decide +kernel
theorem dX10_as_15 : decode cX10_as 15 = .ok (.ifCond .lt 8, 3) := by decide +kernel
theorem dX10_as_18 : decode cX10_as 18 = .ok (.iload_n 2, 1) := by decide +kernel
theorem dX10_as_19 : decode cX10_as 19 = .ok (.iconst 5, 1) := by decide +kernel
theorem dX10_as_20 : decode cX10_as 20 = .ok (.if_icmp .le 6, 3) := by decide +kernel
theorem dX10_as_23 : decode cX10_as 23 = .ok (.bipush (-3), 2) := by decide +kernel
theorem dX10_as_25 : decode cX10_as 25 = .ok (.ireturn, 1) := by decide +kernel
theorem dX10_as_26 : decode cX10_as 26 = .ok (.aload_n 0, 1) := by decide +kernel
theorem dX10_as_27 : decode cX10_as 27 = .ok (.getfield 21, 3) := by decide +kernel
theorem dX10_as_30 : decode cX10_as 30 = .ok (.iload_n 1, 1) := by decide +kernel
theorem dX10_as_31 : decode cX10_as 31 = .ok (.invokevirtual 148, 3) := by decide +kernel
theorem dX10_as_34 : decode cX10_as 34 = .ok (.iload_n 2, 1) := by decide +kernel
theorem dX10_as_35 : decode cX10_as 35 = .ok (.invokestatic 175, 3) := by decide +kernel
theorem dX10_as_38 : decode cX10_as 38 = .ok (.ifCond .ne 6, 3) := by decide +kernel
theorem dX10_as_41 : decode cX10_as 41 = .ok (.bipush (-4), 2) := by decide +kernel
theorem dX10_as_43 : decode cX10_as 43 = .ok (.ireturn, 1) := by decide +kernel
theorem dX10_as_44 : decode cX10_as 44 = .ok (.aload_n 0, 1) := by decide +kernel
theorem dX10_as_45 : decode cX10_as 45 = .ok (.iload_n 1, 1) := by decide +kernel
theorem dX10_as_46 : decode cX10_as 46 = .ok (.invokevirtual 178, 3) := by decide +kernel
theorem dX10_as_49 : decode cX10_as 49 = .ok (.ireturn, 1) := by decide +kernel
theorem dX7_lover_0 : decode cX7_lover 0 = .ok (.iload_n 0, 1) := by decide +kernel
theorem dX7_lover_1 : decode cX7_lover 1 = .ok (.tableswitch 51 0 7 #[47, 47, 49, 51, 51, 51, 51, 49], 47) := by decide +kernel
theorem dX7_lover_48 : decode cX7_lover 48 = .ok (.iconst 0, 1) := by decide +kernel
theorem dX7_lover_49 : decode cX7_lover 49 = .ok (.ireturn, 1) := by decide +kernel
theorem dX7_lover_50 : decode cX7_lover 50 = .ok (.iconst 1, 1) := by decide +kernel
theorem dX7_lover_51 : decode cX7_lover 51 = .ok (.ireturn, 1) := by decide +kernel
theorem dX7_lover_52 : decode cX7_lover 52 = .ok (.iconst 2, 1) := by decide +kernel
theorem dX7_lover_53 : decode cX7_lover 53 = .ok (.ireturn, 1) := by decide +kernel
theorem dX10_wordsLovedBy_0 : decode cX10_wordsLovedBy 0 = .ok (.iconst 0, 1) := by decide +kernel
theorem dX10_wordsLovedBy_1 : decode cX10_wordsLovedBy 1 = .ok (.istore_n 3, 1) := by decide +kernel
theorem dX10_wordsLovedBy_2 : decode cX10_wordsLovedBy 2 = .ok (.iconst 0, 1) := by decide +kernel
theorem dX10_wordsLovedBy_3 : decode cX10_wordsLovedBy 3 = .ok (.istore 4, 2) := by decide +kernel
theorem dX10_wordsLovedBy_5 : decode cX10_wordsLovedBy 5 = .ok (.iload 4, 2) := by decide +kernel
theorem dX10_wordsLovedBy_7 : decode cX10_wordsLovedBy 7 = .ok (.iconst 3, 1) := by decide +kernel
theorem dX10_wordsLovedBy_8 : decode cX10_wordsLovedBy 8 = .ok (.if_icmp .ge 50, 3) := by decide +kernel
theorem dX10_wordsLovedBy_11 : decode cX10_wordsLovedBy 11 = .ok (.iload 4, 2) := by decide +kernel
theorem dX10_wordsLovedBy_13 : decode cX10_wordsLovedBy 13 = .ok (.aload_n 0, 1) := by decide +kernel
theorem dX10_wordsLovedBy_14 : decode cX10_wordsLovedBy 14 = .ok (.getfield 21, 3) := by decide +kernel
theorem dX10_wordsLovedBy_17 : decode cX10_wordsLovedBy 17 = .ok (.iload_n 2, 1) := by decide +kernel
theorem dX10_wordsLovedBy_18 : decode cX10_wordsLovedBy 18 = .ok (.invokevirtual 157, 3) := by decide +kernel
theorem dX10_wordsLovedBy_21 : decode cX10_wordsLovedBy 21 = .ok (.if_icmp .ge 37, 3) := by decide +kernel
theorem dX10_wordsLovedBy_24 : decode cX10_wordsLovedBy 24 = .ok (.iload_n 3, 1) := by decide +kernel
theorem dX10_wordsLovedBy_25 : decode cX10_wordsLovedBy 25 = .ok (.aload_n 0, 1) := by decide +kernel
theorem dX10_wordsLovedBy_26 : decode cX10_wordsLovedBy 26 = .ok (.getfield 21, 3) := by decide +kernel
theorem dX10_wordsLovedBy_29 : decode cX10_wordsLovedBy 29 = .ok (.iload_n 2, 1) := by decide +kernel
theorem dX10_wordsLovedBy_30 : decode cX10_wordsLovedBy 30 = .ok (.iload 4, 2) := by decide +kernel
theorem dX10_wordsLovedBy_32 : decode cX10_wordsLovedBy 32 = .ok (.invokevirtual 163, 3) := by decide +kernel
theorem dX10_wordsLovedBy_35 : decode cX10_wordsLovedBy 35 = .ok (.invokestatic 190, 3) := by decide +kernel
theorem dX10_wordsLovedBy_38 : decode cX10_wordsLovedBy 38 = .ok (.iload_n 1, 1) := by decide +kernel
theorem dX10_wordsLovedBy_39 : decode cX10_wordsLovedBy 39 = .ok (.if_icmp .ne 7, 3) := by decide +kernel
theorem dX10_wordsLovedBy_42 : decode cX10_wordsLovedBy 42 = .ok (.iconst 1, 1) := by decide +kernel
theorem dX10_wordsLovedBy_43 : decode cX10_wordsLovedBy 43 = .ok (.goto 4, 3) := by decide +kernel
theorem dX10_wordsLovedBy_46 : decode cX10_wordsLovedBy 46 = .ok (.iconst 0, 1) := by decide +kernel
theorem dX10_wordsLovedBy_47 : decode cX10_wordsLovedBy 47 = .ok (.invokestatic 141, 3) := by decide +kernel
theorem dX10_wordsLovedBy_50 : decode cX10_wordsLovedBy 50 = .ok (.iadd, 1) := by decide +kernel
theorem dX10_wordsLovedBy_51 : decode cX10_wordsLovedBy 51 = .ok (.istore_n 3, 1) := by decide +kernel
theorem dX10_wordsLovedBy_52 : decode cX10_wordsLovedBy 52 = .ok (.iinc 4 1, 3) := by decide +kernel
theorem dX10_wordsLovedBy_55 : decode cX10_wordsLovedBy 55 = .ok (.goto (-50), 3) := by decide +kernel
theorem dX10_wordsLovedBy_58 : decode cX10_wordsLovedBy 58 = .ok (.iload_n 3, 1) := by decide +kernel
theorem dX10_wordsLovedBy_59 : decode cX10_wordsLovedBy 59 = .ok (.ireturn, 1) := by decide +kernel
theorem dX10_laidBy_0 : decode cX10_laidBy 0 = .ok (.aload_n 0, 1) := by decide +kernel
theorem dX10_laidBy_1 : decode cX10_laidBy 1 = .ok (.getfield 21, 3) := by decide +kernel
theorem dX10_laidBy_4 : decode cX10_laidBy 4 = .ok (.iload_n 1, 1) := by decide +kernel
theorem dX10_laidBy_5 : decode cX10_laidBy 5 = .ok (.invokevirtual 145, 3) := by decide +kernel
theorem dX10_laidBy_8 : decode cX10_laidBy 8 = .ok (.ifCond .ne 6, 3) := by decide +kernel
theorem dX10_laidBy_11 : decode cX10_laidBy 11 = .ok (.bipush (-2), 2) := by decide +kernel
theorem dX10_laidBy_13 : decode cX10_laidBy 13 = .ok (.ireturn, 1) := by decide +kernel
theorem dX10_laidBy_14 : decode cX10_laidBy 14 = .ok (.iconst (-1), 1) := by decide +kernel
theorem dX10_laidBy_15 : decode cX10_laidBy 15 = .ok (.istore_n 2, 1) := by decide +kernel
theorem dX10_laidBy_16 : decode cX10_laidBy 16 = .ok (.iconst 0, 1) := by decide +kernel
theorem dX10_laidBy_17 : decode cX10_laidBy 17 = .ok (.istore_n 3, 1) := by decide +kernel
theorem dX10_laidBy_18 : decode cX10_laidBy 18 = .ok (.iconst 0, 1) := by decide +kernel
theorem dX10_laidBy_19 : decode cX10_laidBy 19 = .ok (.istore 4, 2) := by decide +kernel
theorem dX10_laidBy_21 : decode cX10_laidBy 21 = .ok (.iload 4, 2) := by decide +kernel
theorem dX10_laidBy_23 : decode cX10_laidBy 23 = .ok (.iconst 3, 1) := by decide +kernel
theorem dX10_laidBy_24 : decode cX10_laidBy 24 = .ok (.if_icmp .ge 30, 3) := by decide +kernel
theorem dX10_laidBy_27 : decode cX10_laidBy 27 = .ok (.aload_n 0, 1) := by decide +kernel
theorem dX10_laidBy_28 : decode cX10_laidBy 28 = .ok (.iload 4, 2) := by decide +kernel
theorem dX10_laidBy_30 : decode cX10_laidBy 30 = .ok (.iload_n 1, 1) := by decide +kernel
theorem dX10_laidBy_31 : decode cX10_laidBy 31 = .ok (.invokevirtual 187, 3) := by decide +kernel
theorem dX10_laidBy_34 : decode cX10_laidBy 34 = .ok (.istore 5, 2) := by decide +kernel
theorem dX10_laidBy_36 : decode cX10_laidBy 36 = .ok (.iload 5, 2) := by decide +kernel
theorem dX10_laidBy_38 : decode cX10_laidBy 38 = .ok (.iload_n 3, 1) := by decide +kernel
theorem dX10_laidBy_39 : decode cX10_laidBy 39 = .ok (.if_icmp .le 9, 3) := by decide +kernel
theorem dX10_laidBy_42 : decode cX10_laidBy 42 = .ok (.iload 5, 2) := by decide +kernel
theorem dX10_laidBy_44 : decode cX10_laidBy 44 = .ok (.istore_n 3, 1) := by decide +kernel
theorem dX10_laidBy_45 : decode cX10_laidBy 45 = .ok (.iload 4, 2) := by decide +kernel
theorem dX10_laidBy_47 : decode cX10_laidBy 47 = .ok (.istore_n 2, 1) := by decide +kernel
theorem dX10_laidBy_48 : decode cX10_laidBy 48 = .ok (.iinc 4 1, 3) := by decide +kernel
theorem dX10_laidBy_51 : decode cX10_laidBy 51 = .ok (.goto (-30), 3) := by decide +kernel
theorem dX10_laidBy_54 : decode cX10_laidBy 54 = .ok (.iload_n 2, 1) := by decide +kernel
theorem dX10_laidBy_55 : decode cX10_laidBy 55 = .ok (.ireturn, 1) := by decide +kernel
theorem dX10_isAnother_0 : decode cX10_isAnother 0 = .ok (.aload_n 0, 1) := by decide +kernel
theorem dX10_isAnother_1 : decode cX10_isAnother 1 = .ok (.getfield 21, 3) := by decide +kernel
theorem dX10_isAnother_4 : decode cX10_isAnother 4 = .ok (.iload_n 2, 1) := by decide +kernel
theorem dX10_isAnother_5 : decode cX10_isAnother 5 = .ok (.invokevirtual 128, 3) := by decide +kernel
theorem dX10_isAnother_8 : decode cX10_isAnother 8 = .ok (.ifCond .eq 12, 3) := by decide +kernel
theorem dX10_isAnother_11 : decode cX10_isAnother 11 = .ok (.iload_n 2, 1) := by decide +kernel
theorem dX10_isAnother_12 : decode cX10_isAnother 12 = .ok (.iload_n 1, 1) := by decide +kernel
theorem dX10_isAnother_13 : decode cX10_isAnother 13 = .ok (.if_icmp .eq 7, 3) := by decide +kernel
theorem dX10_isAnother_16 : decode cX10_isAnother 16 = .ok (.iconst 1, 1) := by decide +kernel
theorem dX10_isAnother_17 : decode cX10_isAnother 17 = .ok (.goto 4, 3) := by decide +kernel
theorem dX10_isAnother_20 : decode cX10_isAnother 20 = .ok (.iconst 0, 1) := by decide +kernel
theorem dX10_isAnother_21 : decode cX10_isAnother 21 = .ok (.ireturn, 1) := by decide +kernel
theorem dX10_refusal_0 : decode cX10_refusal 0 = .ok (.aload_n 0, 1) := by decide +kernel
theorem dX10_refusal_1 : decode cX10_refusal 1 = .ok (.getfield 21, 3) := by decide +kernel
theorem dX10_refusal_4 : decode cX10_refusal 4 = .ok (.iload_n 1, 1) := by decide +kernel
theorem dX10_refusal_5 : decode cX10_refusal 5 = .ok (.invokevirtual 128, 3) := by decide +kernel
theorem dX10_refusal_8 : decode cX10_refusal 8 = .ok (.ifCond .ne 6, 3) := by decide +kernel
theorem dX10_refusal_11 : decode cX10_refusal 11 = .ok (.bipush (-2), 2) := by decide +kernel
theorem dX10_refusal_13 : decode cX10_refusal 13 = .ok (.ireturn, 1) := by decide +kernel
theorem dX10_refusal_14 : decode cX10_refusal 14 = .ok (.iload_n 2, 1) := by decide +kernel
theorem dX10_refusal_15 : decode cX10_refusal 15 = .ok (.ifCond .ne 15, 3) := by decide +kernel
theorem dX10_refusal_18 : decode cX10_refusal 18 = .ok (.aload_n 0, 1) := by decide +kernel
theorem dX10_refusal_19 : decode cX10_refusal 19 = .ok (.iload_n 1, 1) := by decide +kernel
theorem dX10_refusal_20 : decode cX10_refusal 20 = .ok (.iload_n 3, 1) := by decide +kernel
theorem dX10_refusal_21 : decode cX10_refusal 21 = .ok (.invokevirtual 203, 3) := by decide +kernel
theorem dX10_refusal_24 : decode cX10_refusal 24 = .ok (.ifCond .ne 6, 3) := by decide +kernel
theorem dX10_refusal_27 : decode cX10_refusal 27 = .ok (.bipush (-2), 2) := by decide +kernel
theorem dX10_refusal_29 : decode cX10_refusal 29 = .ok (.ireturn, 1) := by decide +kernel
theorem dX10_refusal_30 : decode cX10_refusal 30 = .ok (.iload_n 2, 1) := by decide +kernel
theorem dX10_refusal_31 : decode cX10_refusal 31 = .ok (.iconst 2, 1) := by decide +kernel
theorem dX10_refusal_32 : decode cX10_refusal 32 = .ok (.if_icmp .ne 15, 3) := by decide +kernel
theorem dX10_refusal_35 : decode cX10_refusal 35 = .ok (.iload_n 3, 1) := by decide +kernel
theorem dX10_refusal_36 : decode cX10_refusal 36 = .ok (.ifCond .lt 8, 3) := by decide +kernel
theorem dX10_refusal_39 : decode cX10_refusal 39 = .ok (.iload_n 3, 1) := by decide +kernel
theorem dX10_refusal_40 : decode cX10_refusal 40 = .ok (.iconst 2, 1) := by decide +kernel
theorem dX10_refusal_41 : decode cX10_refusal 41 = .ok (.if_icmp .lt 6, 3) := by decide +kernel
theorem dX10_refusal_44 : decode cX10_refusal 44 = .ok (.bipush (-2), 2) := by decide +kernel
theorem dX10_refusal_46 : decode cX10_refusal 46 = .ok (.ireturn, 1) := by decide +kernel
theorem dX10_refusal_47 : decode cX10_refusal 47 = .ok (.iload_n 2, 1) := by decide +kernel
theorem dX10_refusal_48 : decode cX10_refusal 48 = .ok (.ifCond .lt 8, 3) := by decide +kernel
theorem dX10_refusal_51 : decode cX10_refusal 51 = .ok (.iload_n 2, 1) := by decide +kernel
theorem dX10_refusal_52 : decode cX10_refusal 52 = .ok (.iconst 4, 1) := by decide +kernel
theorem dX10_refusal_53 : decode cX10_refusal 53 = .ok (.if_icmp .le 8, 3) := by decide +kernel
theorem dX10_refusal_56 : decode cX10_refusal 56 = .ok (.bipush (-3), 2) := by decide +kernel
theorem dX10_refusal_58 : decode cX10_refusal 58 = .ok (.goto 4, 3) := by decide +kernel
theorem dX10_refusal_61 : decode cX10_refusal 61 = .ok (.iconst 0, 1) := by decide +kernel
theorem dX10_refusal_62 : decode cX10_refusal 62 = .ok (.ireturn, 1) := by decide +kernel
theorem dX4_deedOf_0 : decode cX4_deedOf 0 = .ok (.iconst 0, 1) := by decide +kernel
theorem dX4_deedOf_1 : decode cX4_deedOf 1 = .ok (.istore 4, 2) := by decide +kernel
theorem dX4_deedOf_3 : decode cX4_deedOf 3 = .ok (.iload 4, 2) := by decide +kernel
theorem dX4_deedOf_5 : decode cX4_deedOf 5 = .ok (.aload_n 0, 1) := by decide +kernel
theorem dX4_deedOf_6 : decode cX4_deedOf 6 = .ok (.getfield 137, 3) := by decide +kernel
theorem dX4_deedOf_9 : decode cX4_deedOf 9 = .ok (.if_icmp .ge 90, 3) := by decide +kernel
theorem dX4_deedOf_12 : decode cX4_deedOf 12 = .ok (.iload 4, 2) := by decide +kernel
theorem dX4_deedOf_14 : decode cX4_deedOf 14 = .ok (.bipush 19, 2) := by decide +kernel
theorem dX4_deedOf_16 : decode cX4_deedOf 16 = .ok (.if_icmp .ge 83, 3) := by decide +kernel
theorem dX4_deedOf_19 : decode cX4_deedOf 19 = .ok (.iload_n 2, 1) := by decide +kernel
theorem dX4_deedOf_20 : decode cX4_deedOf 20 = .ok (.iconst 4, 1) := by decide +kernel
theorem dX4_deedOf_21 : decode cX4_deedOf 21 = .ok (.if_icmp .eq 14, 3) := by decide +kernel
theorem dX4_deedOf_24 : decode cX4_deedOf 24 = .ok (.aload_n 0, 1) := by decide +kernel
theorem dX4_deedOf_25 : decode cX4_deedOf 25 = .ok (.getfield 37, 3) := by decide +kernel
theorem dX4_deedOf_28 : decode cX4_deedOf 28 = .ok (.iload 4, 2) := by decide +kernel
theorem dX4_deedOf_30 : decode cX4_deedOf 30 = .ok (.iaload, 1) := by decide +kernel
theorem dX4_deedOf_31 : decode cX4_deedOf 31 = .ok (.iload_n 1, 1) := by decide +kernel
theorem dX4_deedOf_32 : decode cX4_deedOf 32 = .ok (.if_icmp .ne 7, 3) := by decide +kernel
theorem dX4_deedOf_35 : decode cX4_deedOf 35 = .ok (.iconst 1, 1) := by decide +kernel
theorem dX4_deedOf_36 : decode cX4_deedOf 36 = .ok (.goto 4, 3) := by decide +kernel
theorem dX4_deedOf_39 : decode cX4_deedOf 39 = .ok (.iconst 0, 1) := by decide +kernel
theorem dX4_deedOf_40 : decode cX4_deedOf 40 = .ok (.istore 5, 2) := by decide +kernel
theorem dX4_deedOf_42 : decode cX4_deedOf 42 = .ok (.iload_n 2, 1) := by decide +kernel
theorem dX4_deedOf_43 : decode cX4_deedOf 43 = .ok (.ifCond .eq 8, 3) := by decide +kernel
theorem dX4_deedOf_46 : decode cX4_deedOf 46 = .ok (.iload_n 2, 1) := by decide +kernel
theorem dX4_deedOf_47 : decode cX4_deedOf 47 = .ok (.iconst 2, 1) := by decide +kernel
theorem dX4_deedOf_48 : decode cX4_deedOf 48 = .ok (.if_icmp .ne 14, 3) := by decide +kernel
theorem dX4_deedOf_51 : decode cX4_deedOf 51 = .ok (.aload_n 0, 1) := by decide +kernel
theorem dX4_deedOf_52 : decode cX4_deedOf 52 = .ok (.getfield 43, 3) := by decide +kernel
theorem dX4_deedOf_55 : decode cX4_deedOf 55 = .ok (.iload 4, 2) := by decide +kernel
theorem dX4_deedOf_57 : decode cX4_deedOf 57 = .ok (.iaload, 1) := by decide +kernel
theorem dX4_deedOf_58 : decode cX4_deedOf 58 = .ok (.iload_n 3, 1) := by decide +kernel
theorem dX4_deedOf_59 : decode cX4_deedOf 59 = .ok (.if_icmp .ne 7, 3) := by decide +kernel
theorem dX4_deedOf_62 : decode cX4_deedOf 62 = .ok (.iconst 1, 1) := by decide +kernel
theorem dX4_deedOf_63 : decode cX4_deedOf 63 = .ok (.goto 4, 3) := by decide +kernel
theorem dX4_deedOf_66 : decode cX4_deedOf 66 = .ok (.iconst 0, 1) := by decide +kernel
theorem dX4_deedOf_67 : decode cX4_deedOf 67 = .ok (.istore 6, 2) := by decide +kernel
theorem dX4_deedOf_69 : decode cX4_deedOf 69 = .ok (.aload_n 0, 1) := by decide +kernel
theorem dX4_deedOf_70 : decode cX4_deedOf 70 = .ok (.getfield 40, 3) := by decide +kernel
theorem dX4_deedOf_73 : decode cX4_deedOf 73 = .ok (.iload 4, 2) := by decide +kernel
theorem dX4_deedOf_75 : decode cX4_deedOf 75 = .ok (.iaload, 1) := by decide +kernel
theorem dX4_deedOf_76 : decode cX4_deedOf 76 = .ok (.iload_n 2, 1) := by decide +kernel
theorem dX4_deedOf_77 : decode cX4_deedOf 77 = .ok (.if_icmp .ne 16, 3) := by decide +kernel
theorem dX4_deedOf_80 : decode cX4_deedOf 80 = .ok (.iload 5, 2) := by decide +kernel
theorem dX4_deedOf_82 : decode cX4_deedOf 82 = .ok (.ifCond .eq 11, 3) := by decide +kernel
theorem dX4_deedOf_85 : decode cX4_deedOf 85 = .ok (.iload 6, 2) := by decide +kernel
theorem dX4_deedOf_87 : decode cX4_deedOf 87 = .ok (.ifCond .eq 6, 3) := by decide +kernel
theorem dX4_deedOf_90 : decode cX4_deedOf 90 = .ok (.iload 4, 2) := by decide +kernel
theorem dX4_deedOf_92 : decode cX4_deedOf 92 = .ok (.ireturn, 1) := by decide +kernel
theorem dX4_deedOf_93 : decode cX4_deedOf 93 = .ok (.iinc 4 1, 3) := by decide +kernel
theorem dX4_deedOf_96 : decode cX4_deedOf 96 = .ok (.goto (-93), 3) := by decide +kernel
theorem dX4_deedOf_99 : decode cX4_deedOf 99 = .ok (.iconst (-1), 1) := by decide +kernel
theorem dX4_deedOf_100 : decode cX4_deedOf 100 = .ok (.ireturn, 1) := by decide +kernel
theorem dX6_nextDay_0 : decode cX6_nextDay 0 = .ok (.iload_n 0, 1) := by decide +kernel
theorem dX6_nextDay_1 : decode cX6_nextDay 1 = .ok (.bipush 13, 2) := by decide +kernel
theorem dX6_nextDay_3 : decode cX6_nextDay 3 = .ok (.ishr, 1) := by decide +kernel
theorem dX6_nextDay_4 : decode cX6_nextDay 4 = .ok (.bipush 7, 2) := by decide +kernel
theorem dX6_nextDay_6 : decode cX6_nextDay 6 = .ok (.iand, 1) := by decide +kernel
theorem dX6_nextDay_7 : decode cX6_nextDay 7 = .ok (.istore_n 1, 1) := by decide +kernel
theorem dX6_nextDay_8 : decode cX6_nextDay 8 = .ok (.iload_n 1, 1) := by decide +kernel
theorem dX6_nextDay_9 : decode cX6_nextDay 9 = .ok (.bipush 6, 2) := by decide +kernel
theorem dX6_nextDay_11 : decode cX6_nextDay 11 = .ok (.if_icmp .lt 7, 3) := by decide +kernel
theorem dX6_nextDay_14 : decode cX6_nextDay 14 = .ok (.iconst 0, 1) := by decide +kernel
theorem dX6_nextDay_15 : decode cX6_nextDay 15 = .ok (.goto 6, 3) := by decide +kernel
theorem dX6_nextDay_18 : decode cX6_nextDay 18 = .ok (.iload_n 1, 1) := by decide +kernel
theorem dX6_nextDay_19 : decode cX6_nextDay 19 = .ok (.iconst 1, 1) := by decide +kernel
theorem dX6_nextDay_20 : decode cX6_nextDay 20 = .ok (.iadd, 1) := by decide +kernel
theorem dX6_nextDay_21 : decode cX6_nextDay 21 = .ok (.istore_n 2, 1) := by decide +kernel
theorem dX6_nextDay_22 : decode cX6_nextDay 22 = .ok (.iload_n 0, 1) := by decide +kernel
theorem dX6_nextDay_23 : decode cX6_nextDay 23 = .ok (.ldc 11, 2) := by decide +kernel
theorem dX6_nextDay_25 : decode cX6_nextDay 25 = .ok (.iand, 1) := by decide +kernel
theorem dX6_nextDay_26 : decode cX6_nextDay 26 = .ok (.iload_n 2, 1) := by decide +kernel
theorem dX6_nextDay_27 : decode cX6_nextDay 27 = .ok (.bipush 13, 2) := by decide +kernel
theorem dX6_nextDay_29 : decode cX6_nextDay 29 = .ok (.ishl, 1) := by decide +kernel
theorem dX6_nextDay_30 : decode cX6_nextDay 30 = .ok (.ior, 1) := by decide +kernel
theorem dX6_nextDay_31 : decode cX6_nextDay 31 = .ok (.ireturn, 1) := by decide +kernel
theorem dX4_after_0 : decode cX4_after 0 = .ok (.iload_n 2, 1) := by decide +kernel
theorem dX4_after_1 : decode cX4_after 1 = .ok (.ifCond .lt 28, 3) := by decide +kernel
theorem dX4_after_4 : decode cX4_after 4 = .ok (.iload_n 2, 1) := by decide +kernel
theorem dX4_after_5 : decode cX4_after 5 = .ok (.aload_n 0, 1) := by decide +kernel
theorem dX4_after_6 : decode cX4_after 6 = .ok (.getfield 137, 3) := by decide +kernel
theorem dX4_after_9 : decode cX4_after 9 = .ok (.if_icmp .ge 20, 3) := by decide +kernel
theorem dX4_after_12 : decode cX4_after 12 = .ok (.iload_n 2, 1) := by decide +kernel
theorem dX4_after_13 : decode cX4_after 13 = .ok (.bipush 19, 2) := by decide +kernel
theorem dX4_after_15 : decode cX4_after 15 = .ok (.if_icmp .ge 14, 3) := by decide +kernel
theorem dX4_after_18 : decode cX4_after 18 = .ok (.iload_n 1, 1) := by decide +kernel
theorem dX4_after_19 : decode cX4_after 19 = .ok (.aload_n 0, 1) := by decide +kernel
theorem dX4_after_20 : decode cX4_after 20 = .ok (.getfield 46, 3) := by decide +kernel
theorem dX4_after_23 : decode cX4_after 23 = .ok (.iload_n 2, 1) := by decide +kernel
theorem dX4_after_24 : decode cX4_after 24 = .ok (.iaload, 1) := by decide +kernel
theorem dX4_after_25 : decode cX4_after 25 = .ok (.iand, 1) := by decide +kernel
theorem dX4_after_26 : decode cX4_after 26 = .ok (.ifCond .eq 5, 3) := by decide +kernel
theorem dX4_after_29 : decode cX4_after 29 = .ok (.iconst (-1), 1) := by decide +kernel
theorem dX4_after_30 : decode cX4_after 30 = .ok (.ireturn, 1) := by decide +kernel
theorem dX4_after_31 : decode cX4_after 31 = .ok (.aload_n 0, 1) := by decide +kernel
theorem dX4_after_32 : decode cX4_after 32 = .ok (.getfield 40, 3) := by decide +kernel
theorem dX4_after_35 : decode cX4_after 35 = .ok (.iload_n 2, 1) := by decide +kernel
theorem dX4_after_36 : decode cX4_after 36 = .ok (.iaload, 1) := by decide +kernel
theorem dX4_after_37 : decode cX4_after 37 = .ok (.iconst 3, 1) := by decide +kernel
theorem dX4_after_38 : decode cX4_after 38 = .ok (.if_icmp .ne 14, 3) := by decide +kernel
theorem dX4_after_41 : decode cX4_after 41 = .ok (.iload_n 1, 1) := by decide +kernel
theorem dX4_after_42 : decode cX4_after 42 = .ok (.invokestatic 154, 3) := by decide +kernel
theorem dX4_after_45 : decode cX4_after 45 = .ok (.bipush 7, 2) := by decide +kernel
theorem dX4_after_47 : decode cX4_after 47 = .ok (.if_icmp .lt 5, 3) := by decide +kernel
theorem dX4_after_50 : decode cX4_after 50 = .ok (.iconst (-1), 1) := by decide +kernel
theorem dX4_after_51 : decode cX4_after 51 = .ok (.ireturn, 1) := by decide +kernel
theorem dX4_after_52 : decode cX4_after 52 = .ok (.aload_n 0, 1) := by decide +kernel
theorem dX4_after_53 : decode cX4_after 53 = .ok (.getfield 40, 3) := by decide +kernel
theorem dX4_after_56 : decode cX4_after 56 = .ok (.iload_n 2, 1) := by decide +kernel
theorem dX4_after_57 : decode cX4_after 57 = .ok (.iaload, 1) := by decide +kernel
theorem dX4_after_58 : decode cX4_after 58 = .ok (.iconst 4, 1) := by decide +kernel
theorem dX4_after_59 : decode cX4_after 59 = .ok (.if_icmp .ne 10, 3) := by decide +kernel
theorem dX4_after_62 : decode cX4_after 62 = .ok (.iload_n 1, 1) := by decide +kernel
theorem dX4_after_63 : decode cX4_after 63 = .ok (.invokestatic 157, 3) := by decide +kernel
theorem dX4_after_66 : decode cX4_after 66 = .ok (.goto 11, 3) := by decide +kernel
theorem dX4_after_69 : decode cX4_after 69 = .ok (.iload_n 1, 1) := by decide +kernel
theorem dX4_after_70 : decode cX4_after 70 = .ok (.aload_n 0, 1) := by decide +kernel
theorem dX4_after_71 : decode cX4_after 71 = .ok (.getfield 49, 3) := by decide +kernel
theorem dX4_after_74 : decode cX4_after 74 = .ok (.iload_n 2, 1) := by decide +kernel
theorem dX4_after_75 : decode cX4_after 75 = .ok (.iaload, 1) := by decide +kernel
theorem dX4_after_76 : decode cX4_after 76 = .ok (.iadd, 1) := by decide +kernel
theorem dX4_after_77 : decode cX4_after 77 = .ok (.istore_n 3, 1) := by decide +kernel
theorem dX4_after_78 : decode cX4_after 78 = .ok (.aload_n 0, 1) := by decide +kernel
theorem dX4_after_79 : decode cX4_after 79 = .ok (.getfield 52, 3) := by decide +kernel
theorem dX4_after_82 : decode cX4_after 82 = .ok (.iload_n 2, 1) := by decide +kernel
theorem dX4_after_83 : decode cX4_after 83 = .ok (.iaload, 1) := by decide +kernel
theorem dX4_after_84 : decode cX4_after 84 = .ok (.istore 4, 2) := by decide +kernel
theorem dX4_after_86 : decode cX4_after 86 = .ok (.iload_n 3, 1) := by decide +kernel
theorem dX4_after_87 : decode cX4_after 87 = .ok (.invokestatic 154, 3) := by decide +kernel
theorem dX4_after_90 : decode cX4_after 90 = .ok (.istore 5, 2) := by decide +kernel
theorem dX4_after_92 : decode cX4_after 92 = .ok (.iconst 0, 1) := by decide +kernel
theorem dX4_after_93 : decode cX4_after 93 = .ok (.istore 6, 2) := by decide +kernel
theorem dX4_after_95 : decode cX4_after 95 = .ok (.iconst 0, 1) := by decide +kernel
theorem dX4_after_96 : decode cX4_after 96 = .ok (.istore 7, 2) := by decide +kernel
theorem dX4_after_98 : decode cX4_after 98 = .ok (.iload 7, 2) := by decide +kernel
theorem dX4_after_100 : decode cX4_after 100 = .ok (.aload_n 0, 1) := by decide +kernel
theorem dX4_after_101 : decode cX4_after 101 = .ok (.getfield 73, 3) := by decide +kernel
theorem dX4_after_104 : decode cX4_after 104 = .ok (.if_icmp .ge 94, 3) := by decide +kernel
theorem dX4_after_107 : decode cX4_after 107 = .ok (.iload 7, 2) := by decide +kernel
theorem dX4_after_109 : decode cX4_after 109 = .ok (.iconst 5, 1) := by decide +kernel
theorem dX4_after_110 : decode cX4_after 110 = .ok (.if_icmp .ge 88, 3) := by decide +kernel
theorem dX4_after_113 : decode cX4_after 113 = .ok (.iload_n 3, 1) := by decide +kernel
theorem dX4_after_114 : decode cX4_after 114 = .ok (.aload_n 0, 1) := by decide +kernel
theorem dX4_after_115 : decode cX4_after 115 = .ok (.getfield 9, 3) := by decide +kernel
theorem dX4_after_118 : decode cX4_after 118 = .ok (.iload 7, 2) := by decide +kernel
theorem dX4_after_120 : decode cX4_after 120 = .ok (.iaload, 1) := by decide +kernel
theorem dX4_after_121 : decode cX4_after 121 = .ok (.iand, 1) := by decide +kernel
theorem dX4_after_122 : decode cX4_after 122 = .ok (.aload_n 0, 1) := by decide +kernel
theorem dX4_after_123 : decode cX4_after 123 = .ok (.getfield 15, 3) := by decide +kernel
theorem dX4_after_126 : decode cX4_after 126 = .ok (.iload 7, 2) := by decide +kernel
theorem dX4_after_128 : decode cX4_after 128 = .ok (.iaload, 1) := by decide +kernel
theorem dX4_after_129 : decode cX4_after 129 = .ok (.if_icmp .ne 63, 3) := by decide +kernel
theorem dX4_after_132 : decode cX4_after 132 = .ok (.iload 5, 2) := by decide +kernel
theorem dX4_after_134 : decode cX4_after 134 = .ok (.aload_n 0, 1) := by decide +kernel
theorem dX4_after_135 : decode cX4_after 135 = .ok (.getfield 18, 3) := by decide +kernel
theorem dX4_after_138 : decode cX4_after 138 = .ok (.iload 7, 2) := by decide +kernel
theorem dX4_after_140 : decode cX4_after 140 = .ok (.iaload, 1) := by decide +kernel
theorem dX4_after_141 : decode cX4_after 141 = .ok (.if_icmp .lt 51, 3) := by decide +kernel
theorem dX4_after_144 : decode cX4_after 144 = .ok (.aload_n 0, 1) := by decide +kernel
theorem dX4_after_145 : decode cX4_after 145 = .ok (.getfield 21, 3) := by decide +kernel
theorem dX4_after_148 : decode cX4_after 148 = .ok (.iload 7, 2) := by decide +kernel
theorem dX4_after_150 : decode cX4_after 150 = .ok (.iaload, 1) := by decide +kernel
theorem dX4_after_151 : decode cX4_after 151 = .ok (.ifCond .eq 15, 3) := by decide +kernel
theorem dX4_after_154 : decode cX4_after 154 = .ok (.aload_n 0, 1) := by decide +kernel
theorem dX4_after_155 : decode cX4_after 155 = .ok (.getfield 21, 3) := by decide +kernel
theorem dX4_after_158 : decode cX4_after 158 = .ok (.iload 7, 2) := by decide +kernel
theorem dX4_after_160 : decode cX4_after 160 = .ok (.iaload, 1) := by decide +kernel
theorem dX4_after_161 : decode cX4_after 161 = .ok (.iload 4, 2) := by decide +kernel
theorem dX4_after_163 : decode cX4_after 163 = .ok (.if_icmp .ne 29, 3) := by decide +kernel
theorem dX4_after_166 : decode cX4_after 166 = .ok (.iload_n 3, 1) := by decide +kernel
theorem dX4_after_167 : decode cX4_after 167 = .ok (.iconst 1, 1) := by decide +kernel
theorem dX4_after_168 : decode cX4_after 168 = .ok (.iload 7, 2) := by decide +kernel
theorem dX4_after_170 : decode cX4_after 170 = .ok (.ishl, 1) := by decide +kernel
theorem dX4_after_171 : decode cX4_after 171 = .ok (.iconst (-1), 1) := by decide +kernel
theorem dX4_after_172 : decode cX4_after 172 = .ok (.ixor, 1) := by decide +kernel
theorem dX4_after_173 : decode cX4_after 173 = .ok (.iand, 1) := by decide +kernel
theorem dX4_after_174 : decode cX4_after 174 = .ok (.aload_n 0, 1) := by decide +kernel
theorem dX4_after_175 : decode cX4_after 175 = .ok (.getfield 24, 3) := by decide +kernel
theorem dX4_after_178 : decode cX4_after 178 = .ok (.iload 7, 2) := by decide +kernel
theorem dX4_after_180 : decode cX4_after 180 = .ok (.iaload, 1) := by decide +kernel
theorem dX4_after_181 : decode cX4_after 181 = .ok (.ior, 1) := by decide +kernel
theorem dX4_after_182 : decode cX4_after 182 = .ok (.istore_n 3, 1) := by decide +kernel
theorem dX4_after_183 : decode cX4_after 183 = .ok (.iload 6, 2) := by decide +kernel
theorem dX4_after_185 : decode cX4_after 185 = .ok (.iconst 1, 1) := by decide +kernel
theorem dX4_after_186 : decode cX4_after 186 = .ok (.iload 7, 2) := by decide +kernel
theorem dX4_after_188 : decode cX4_after 188 = .ok (.ishl, 1) := by decide +kernel
theorem dX4_after_189 : decode cX4_after 189 = .ok (.ior, 1) := by decide +kernel
theorem dX4_after_190 : decode cX4_after 190 = .ok (.istore 6, 2) := by decide +kernel
theorem dX4_after_192 : decode cX4_after 192 = .ok (.iinc 7 1, 3) := by decide +kernel
theorem dX4_after_195 : decode cX4_after 195 = .ok (.goto (-97), 3) := by decide +kernel
theorem dX4_after_198 : decode cX4_after 198 = .ok (.iload_n 3, 1) := by decide +kernel
theorem dX4_after_199 : decode cX4_after 199 = .ok (.iload 6, 2) := by decide +kernel
theorem dX4_after_201 : decode cX4_after 201 = .ok (.bipush 16, 2) := by decide +kernel
theorem dX4_after_203 : decode cX4_after 203 = .ok (.ishl, 1) := by decide +kernel
theorem dX4_after_204 : decode cX4_after 204 = .ok (.ior, 1) := by decide +kernel
theorem dX4_after_205 : decode cX4_after 205 = .ok (.ireturn, 1) := by decide +kernel
theorem dX10_can_0 : decode cX10_can 0 = .ok (.aload_n 0, 1) := by decide +kernel
theorem dX10_can_1 : decode cX10_can 1 = .ok (.iload_n 1, 1) := by decide +kernel
theorem dX10_can_2 : decode cX10_can 2 = .ok (.iload_n 2, 1) := by decide +kernel
theorem dX10_can_3 : decode cX10_can 3 = .ok (.iload_n 3, 1) := by decide +kernel
theorem dX10_can_4 : decode cX10_can 4 = .ok (.invokevirtual 193, 3) := by decide +kernel
theorem dX10_can_7 : decode cX10_can 7 = .ok (.istore 4, 2) := by decide +kernel
theorem dX10_can_9 : decode cX10_can 9 = .ok (.iload 4, 2) := by decide +kernel
theorem dX10_can_11 : decode cX10_can 11 = .ok (.ifCond .eq 6, 3) := by decide +kernel
theorem dX10_can_14 : decode cX10_can 14 = .ok (.iload 4, 2) := by decide +kernel
theorem dX10_can_16 : decode cX10_can 16 = .ok (.ireturn, 1) := by decide +kernel
theorem dX10_can_17 : decode cX10_can 17 = .ok (.aload_n 0, 1) := by decide +kernel
theorem dX10_can_18 : decode cX10_can 18 = .ok (.getfield 37, 3) := by decide +kernel
theorem dX10_can_21 : decode cX10_can 21 = .ok (.aload_n 0, 1) := by decide +kernel
theorem dX10_can_22 : decode cX10_can 22 = .ok (.getfield 114, 3) := by decide +kernel
theorem dX10_can_25 : decode cX10_can 25 = .ok (.aload_n 0, 1) := by decide +kernel
theorem dX10_can_26 : decode cX10_can 26 = .ok (.getfield 37, 3) := by decide +kernel
theorem dX10_can_29 : decode cX10_can 29 = .ok (.iload_n 1, 1) := by decide +kernel
theorem dX10_can_30 : decode cX10_can 30 = .ok (.iload_n 2, 1) := by decide +kernel
theorem dX10_can_31 : decode cX10_can 31 = .ok (.iload_n 3, 1) := by decide +kernel
theorem dX10_can_32 : decode cX10_can 32 = .ok (.invokevirtual 197, 3) := by decide +kernel
theorem dX10_can_35 : decode cX10_can 35 = .ok (.invokevirtual 200, 3) := by decide +kernel
theorem dX10_can_38 : decode cX10_can 38 = .ok (.iconst (-1), 1) := by decide +kernel
theorem dX10_can_39 : decode cX10_can 39 = .ok (.if_icmp .eq 7, 3) := by decide +kernel
theorem dX10_can_42 : decode cX10_can 42 = .ok (.iconst 1, 1) := by decide +kernel
theorem dX10_can_43 : decode cX10_can 43 = .ok (.goto 4, 3) := by decide +kernel
theorem dX10_can_46 : decode cX10_can 46 = .ok (.iconst 0, 1) := by decide +kernel
theorem dX10_can_47 : decode cX10_can 47 = .ok (.invokestatic 141, 3) := by decide +kernel
theorem dX10_can_50 : decode cX10_can 50 = .ok (.ireturn, 1) := by decide +kernel
theorem dX3_isFull_0 : decode cX3_isFull 0 = .ok (.aload_n 0, 1) := by decide +kernel
theorem dX3_isFull_1 : decode cX3_isFull 1 = .ok (.getfield 21, 3) := by decide +kernel
theorem dX3_isFull_4 : decode cX3_isFull 4 = .ok (.aload_n 0, 1) := by decide +kernel
theorem dX3_isFull_5 : decode cX3_isFull 5 = .ok (.getfield 15, 3) := by decide +kernel
theorem dX3_isFull_8 : decode cX3_isFull 8 = .ok (.arraylength, 1) := by decide +kernel
theorem dX3_isFull_9 : decode cX3_isFull 9 = .ok (.if_icmp .lt 7, 3) := by decide +kernel
theorem dX3_isFull_12 : decode cX3_isFull 12 = .ok (.iconst 1, 1) := by decide +kernel
theorem dX3_isFull_13 : decode cX3_isFull 13 = .ok (.goto 4, 3) := by decide +kernel
theorem dX3_isFull_16 : decode cX3_isFull 16 = .ok (.iconst 0, 1) := by decide +kernel
theorem dX3_isFull_17 : decode cX3_isFull 17 = .ok (.ireturn, 1) := by decide +kernel
theorem dX3_dropLast_0 : decode cX3_dropLast 0 = .ok (.aload_n 0, 1) := by decide +kernel
theorem dX3_dropLast_1 : decode cX3_dropLast 1 = .ok (.aload_n 0, 1) := by decide +kernel
theorem dX3_dropLast_2 : decode cX3_dropLast 2 = .ok (.getfield 21, 3) := by decide +kernel
theorem dX3_dropLast_5 : decode cX3_dropLast 5 = .ok (.iconst 1, 1) := by decide +kernel
theorem dX3_dropLast_6 : decode cX3_dropLast 6 = .ok (.isub, 1) := by decide +kernel
theorem dX3_dropLast_7 : decode cX3_dropLast 7 = .ok (.iconst 0, 1) := by decide +kernel
theorem dX3_dropLast_8 : decode cX3_dropLast 8 = .ok (.invokestatic 9, 3) := by decide +kernel
theorem dX3_dropLast_11 : decode cX3_dropLast 11 = .ok (.putfield 21, 3) := by decide +kernel
theorem dX3_dropLast_14 : decode cX3_dropLast 14 = .ok (.return_, 1) := by decide +kernel
theorem dX3_dropFirst_0 : decode cX3_dropFirst 0 = .ok (.iconst 1, 1) := by decide +kernel
theorem dX3_dropFirst_1 : decode cX3_dropFirst 1 = .ok (.istore_n 1, 1) := by decide +kernel
theorem dX3_dropFirst_2 : decode cX3_dropFirst 2 = .ok (.iload_n 1, 1) := by decide +kernel
theorem dX3_dropFirst_3 : decode cX3_dropFirst 3 = .ok (.aload_n 0, 1) := by decide +kernel
theorem dX3_dropFirst_4 : decode cX3_dropFirst 4 = .ok (.getfield 21, 3) := by decide +kernel
theorem dX3_dropFirst_7 : decode cX3_dropFirst 7 = .ok (.if_icmp .ge 32, 3) := by decide +kernel
theorem dX3_dropFirst_10 : decode cX3_dropFirst 10 = .ok (.iload_n 1, 1) := by decide +kernel
theorem dX3_dropFirst_11 : decode cX3_dropFirst 11 = .ok (.aload_n 0, 1) := by decide +kernel
theorem dX3_dropFirst_12 : decode cX3_dropFirst 12 = .ok (.getfield 15, 3) := by decide +kernel
theorem dX3_dropFirst_15 : decode cX3_dropFirst 15 = .ok (.arraylength, 1) := by decide +kernel
theorem dX3_dropFirst_16 : decode cX3_dropFirst 16 = .ok (.if_icmp .ge 23, 3) := by decide +kernel
theorem dX3_dropFirst_19 : decode cX3_dropFirst 19 = .ok (.aload_n 0, 1) := by decide +kernel
theorem dX3_dropFirst_20 : decode cX3_dropFirst 20 = .ok (.getfield 15, 3) := by decide +kernel
theorem dX3_dropFirst_23 : decode cX3_dropFirst 23 = .ok (.iload_n 1, 1) := by decide +kernel
theorem dX3_dropFirst_24 : decode cX3_dropFirst 24 = .ok (.iconst 1, 1) := by decide +kernel
theorem dX3_dropFirst_25 : decode cX3_dropFirst 25 = .ok (.isub, 1) := by decide +kernel
theorem dX3_dropFirst_26 : decode cX3_dropFirst 26 = .ok (.aload_n 0, 1) := by decide +kernel
theorem dX3_dropFirst_27 : decode cX3_dropFirst 27 = .ok (.getfield 15, 3) := by decide +kernel
theorem dX3_dropFirst_30 : decode cX3_dropFirst 30 = .ok (.iload_n 1, 1) := by decide +kernel
theorem dX3_dropFirst_31 : decode cX3_dropFirst 31 = .ok (.iaload, 1) := by decide +kernel
theorem dX3_dropFirst_32 : decode cX3_dropFirst 32 = .ok (.iastore, 1) := by decide +kernel
theorem dX3_dropFirst_33 : decode cX3_dropFirst 33 = .ok (.iinc 1 1, 3) := by decide +kernel
theorem dX3_dropFirst_36 : decode cX3_dropFirst 36 = .ok (.goto (-34), 3) := by decide +kernel
theorem dX3_dropFirst_39 : decode cX3_dropFirst 39 = .ok (.aload_n 0, 1) := by decide +kernel
theorem dX3_dropFirst_40 : decode cX3_dropFirst 40 = .ok (.invokevirtual 25, 3) := by decide +kernel
theorem dX3_dropFirst_43 : decode cX3_dropFirst 43 = .ok (.return_, 1) := by decide +kernel
theorem dX6_of_0 : decode cX6_of 0 = .ok (.iload_n 0, 1) := by decide +kernel
theorem dX6_of_1 : decode cX6_of 1 = .ok (.ldc 12, 2) := by decide +kernel
theorem dX6_of_3 : decode cX6_of 3 = .ok (.iand, 1) := by decide +kernel
theorem dX6_of_4 : decode cX6_of 4 = .ok (.ireturn, 1) := by decide +kernel
theorem dX6_lifted_0 : decode cX6_lifted 0 = .ok (.iload_n 0, 1) := by decide +kernel
theorem dX6_lifted_1 : decode cX6_lifted 1 = .ok (.bipush 16, 2) := by decide +kernel
theorem dX6_lifted_3 : decode cX6_lifted 3 = .ok (.ishr, 1) := by decide +kernel
theorem dX6_lifted_4 : decode cX6_lifted 4 = .ok (.bipush 31, 2) := by decide +kernel
theorem dX6_lifted_6 : decode cX6_lifted 6 = .ok (.iand, 1) := by decide +kernel
theorem dX6_lifted_7 : decode cX6_lifted 7 = .ok (.ireturn, 1) := by decide +kernel
theorem dX10_act_0 : decode cX10_act 0 = .ok (.aload_n 0, 1) := by decide +kernel
theorem dX10_act_1 : decode cX10_act 1 = .ok (.iload_n 1, 1) := by decide +kernel
theorem dX10_act_2 : decode cX10_act 2 = .ok (.iload_n 2, 1) := by decide +kernel
theorem dX10_act_3 : decode cX10_act 3 = .ok (.iload_n 3, 1) := by decide +kernel
theorem dX10_act_4 : decode cX10_act 4 = .ok (.invokevirtual 193, 3) := by decide +kernel
theorem dX10_act_7 : decode cX10_act 7 = .ok (.istore 4, 2) := by decide +kernel
theorem dX10_act_9 : decode cX10_act 9 = .ok (.iload 4, 2) := by decide +kernel
theorem dX10_act_11 : decode cX10_act 11 = .ok (.ifCond .eq 6, 3) := by decide +kernel
theorem dX10_act_14 : decode cX10_act 14 = .ok (.iload 4, 2) := by decide +kernel
theorem dX10_act_16 : decode cX10_act 16 = .ok (.ireturn, 1) := by decide +kernel
theorem dX10_act_17 : decode cX10_act 17 = .ok (.aload_n 0, 1) := by decide +kernel
theorem dX10_act_18 : decode cX10_act 18 = .ok (.getfield 37, 3) := by decide +kernel
theorem dX10_act_21 : decode cX10_act 21 = .ok (.aload_n 0, 1) := by decide +kernel
theorem dX10_act_22 : decode cX10_act 22 = .ok (.getfield 114, 3) := by decide +kernel
theorem dX10_act_25 : decode cX10_act 25 = .ok (.aload_n 0, 1) := by decide +kernel
theorem dX10_act_26 : decode cX10_act 26 = .ok (.getfield 37, 3) := by decide +kernel
theorem dX10_act_29 : decode cX10_act 29 = .ok (.iload_n 1, 1) := by decide +kernel
theorem dX10_act_30 : decode cX10_act 30 = .ok (.iload_n 2, 1) := by decide +kernel
theorem dX10_act_31 : decode cX10_act 31 = .ok (.iload_n 3, 1) := by decide +kernel
theorem dX10_act_32 : decode cX10_act 32 = .ok (.invokevirtual 197, 3) := by decide +kernel
theorem dX10_act_35 : decode cX10_act 35 = .ok (.invokevirtual 200, 3) := by decide +kernel
theorem dX10_act_38 : decode cX10_act 38 = .ok (.istore 5, 2) := by decide +kernel
theorem dX10_act_40 : decode cX10_act 40 = .ok (.iload 5, 2) := by decide +kernel
theorem dX10_act_42 : decode cX10_act 42 = .ok (.iconst (-1), 1) := by decide +kernel
theorem dX10_act_43 : decode cX10_act 43 = .ok (.if_icmp .ne 6, 3) := by decide +kernel
theorem dX10_act_46 : decode cX10_act 46 = .ok (.bipush (-4), 2) := by decide +kernel
theorem dX10_act_48 : decode cX10_act 48 = .ok (.ireturn, 1) := by decide +kernel
theorem dX10_act_49 : decode cX10_act 49 = .ok (.aload_n 0, 1) := by decide +kernel
theorem dX10_act_50 : decode cX10_act 50 = .ok (.getfield 118, 3) := by decide +kernel
theorem dX10_act_53 : decode cX10_act 53 = .ok (.sipush 9999, 3) := by decide +kernel
theorem dX10_act_56 : decode cX10_act 56 = .ok (.if_icmp .lt 6, 3) := by decide +kernel
theorem dX10_act_59 : decode cX10_act 59 = .ok (.bipush (-5), 2) := by decide +kernel
theorem dX10_act_61 : decode cX10_act 61 = .ok (.ireturn, 1) := by decide +kernel
theorem dX10_act_62 : decode cX10_act 62 = .ok (.aload_n 0, 1) := by decide +kernel
theorem dX10_act_63 : decode cX10_act 63 = .ok (.getfield 60, 3) := by decide +kernel
theorem dX10_act_66 : decode cX10_act 66 = .ok (.invokevirtual 208, 3) := by decide +kernel
theorem dX10_act_69 : decode cX10_act 69 = .ok (.ifCond .eq 10, 3) := by decide +kernel
theorem dX10_act_72 : decode cX10_act 72 = .ok (.aload_n 0, 1) := by decide +kernel
theorem dX10_act_73 : decode cX10_act 73 = .ok (.getfield 60, 3) := by decide +kernel
theorem dX10_act_76 : decode cX10_act 76 = .ok (.invokevirtual 212, 3) := by decide +kernel
theorem dX10_act_79 : decode cX10_act 79 = .ok (.aload_n 0, 1) := by decide +kernel
theorem dX10_act_80 : decode cX10_act 80 = .ok (.getfield 60, 3) := by decide +kernel
theorem dX10_act_83 : decode cX10_act 83 = .ok (.aload_n 0, 1) := by decide +kernel
theorem dX10_act_84 : decode cX10_act 84 = .ok (.getfield 114, 3) := by decide +kernel
theorem dX10_act_87 : decode cX10_act 87 = .ok (.invokevirtual 79, 3) := by decide +kernel
theorem dX10_act_90 : decode cX10_act 90 = .ok (.pop, 1) := by decide +kernel
theorem dX10_act_91 : decode cX10_act 91 = .ok (.aload_n 0, 1) := by decide +kernel
theorem dX10_act_92 : decode cX10_act 92 = .ok (.iload 5, 2) := by decide +kernel
theorem dX10_act_94 : decode cX10_act 94 = .ok (.invokestatic 215, 3) := by decide +kernel
theorem dX10_act_97 : decode cX10_act 97 = .ok (.putfield 114, 3) := by decide +kernel
theorem dX10_act_100 : decode cX10_act 100 = .ok (.aload_n 0, 1) := by decide +kernel
theorem dX10_act_101 : decode cX10_act 101 = .ok (.dup, 1) := by decide +kernel
theorem dX10_act_102 : decode cX10_act 102 = .ok (.getfield 118, 3) := by decide +kernel
theorem dX10_act_105 : decode cX10_act 105 = .ok (.iconst 1, 1) := by decide +kernel
theorem dX10_act_106 : decode cX10_act 106 = .ok (.iadd, 1) := by decide +kernel
theorem dX10_act_107 : decode cX10_act 107 = .ok (.putfield 118, 3) := by decide +kernel
theorem dX10_act_110 : decode cX10_act 110 = .ok (.iload 5, 2) := by decide +kernel
theorem dX10_act_112 : decode cX10_act 112 = .ok (.invokestatic 218, 3) := by decide +kernel
theorem dX10_act_115 : decode cX10_act 115 = .ok (.ireturn, 1) := by decide +kernel
theorem dX10_undo_0 : decode cX10_undo 0 = .ok (.aload_n 0, 1) := by decide +kernel
theorem dX10_undo_1 : decode cX10_undo 1 = .ok (.getfield 60, 3) := by decide +kernel
theorem dX10_undo_4 : decode cX10_undo 4 = .ok (.invokevirtual 83, 3) := by decide +kernel
theorem dX10_undo_7 : decode cX10_undo 7 = .ok (.ifCond .ne 6, 3) := by decide +kernel
theorem dX10_undo_10 : decode cX10_undo 10 = .ok (.bipush (-4), 2) := by decide +kernel
theorem dX10_undo_12 : decode cX10_undo 12 = .ok (.ireturn, 1) := by decide +kernel
theorem dX10_undo_13 : decode cX10_undo 13 = .ok (.aload_n 0, 1) := by decide +kernel
theorem dX10_undo_14 : decode cX10_undo 14 = .ok (.aload_n 0, 1) := by decide +kernel
theorem dX10_undo_15 : decode cX10_undo 15 = .ok (.getfield 60, 3) := by decide +kernel
theorem dX10_undo_18 : decode cX10_undo 18 = .ok (.aload_n 0, 1) := by decide +kernel
theorem dX10_undo_19 : decode cX10_undo 19 = .ok (.getfield 60, 3) := by decide +kernel
theorem dX10_undo_22 : decode cX10_undo 22 = .ok (.invokevirtual 83, 3) := by decide +kernel
theorem dX10_undo_25 : decode cX10_undo 25 = .ok (.iconst 1, 1) := by decide +kernel
theorem dX10_undo_26 : decode cX10_undo 26 = .ok (.isub, 1) := by decide +kernel
theorem dX10_undo_27 : decode cX10_undo 27 = .ok (.invokevirtual 221, 3) := by decide +kernel
theorem dX10_undo_30 : decode cX10_undo 30 = .ok (.putfield 114, 3) := by decide +kernel
theorem dX10_undo_33 : decode cX10_undo 33 = .ok (.aload_n 0, 1) := by decide +kernel
theorem dX10_undo_34 : decode cX10_undo 34 = .ok (.getfield 60, 3) := by decide +kernel
theorem dX10_undo_37 : decode cX10_undo 37 = .ok (.invokevirtual 224, 3) := by decide +kernel
theorem dX10_undo_40 : decode cX10_undo 40 = .ok (.aload_n 0, 1) := by decide +kernel
theorem dX10_undo_41 : decode cX10_undo 41 = .ok (.dup, 1) := by decide +kernel
theorem dX10_undo_42 : decode cX10_undo 42 = .ok (.getfield 118, 3) := by decide +kernel
theorem dX10_undo_45 : decode cX10_undo 45 = .ok (.iconst 1, 1) := by decide +kernel
theorem dX10_undo_46 : decode cX10_undo 46 = .ok (.isub, 1) := by decide +kernel
theorem dX10_undo_47 : decode cX10_undo 47 = .ok (.putfield 118, 3) := by decide +kernel
theorem dX10_undo_50 : decode cX10_undo 50 = .ok (.aload_n 0, 1) := by decide +kernel
theorem dX10_undo_51 : decode cX10_undo 51 = .ok (.getfield 60, 3) := by decide +kernel
theorem dX10_undo_54 : decode cX10_undo 54 = .ok (.invokevirtual 83, 3) := by decide +kernel
theorem dX10_undo_57 : decode cX10_undo 57 = .ok (.ireturn, 1) := by decide +kernel
theorem dX10_keep_0 : decode cX10_keep 0 = .ok (.iload_n 1, 1) := by decide +kernel
theorem dX10_keep_1 : decode cX10_keep 1 = .ok (.ifCond .lt 21, 3) := by decide +kernel
theorem dX10_keep_4 : decode cX10_keep 4 = .ok (.iload_n 1, 1) := by decide +kernel
theorem dX10_keep_5 : decode cX10_keep 5 = .ok (.aload_n 0, 1) := by decide +kernel
theorem dX10_keep_6 : decode cX10_keep 6 = .ok (.getfield 63, 3) := by decide +kernel
theorem dX10_keep_9 : decode cX10_keep 9 = .ok (.arraylength, 1) := by decide +kernel
theorem dX10_keep_10 : decode cX10_keep 10 = .ok (.if_icmp .ge 12, 3) := by decide +kernel
theorem dX10_keep_13 : decode cX10_keep 13 = .ok (.iload_n 1, 1) := by decide +kernel
theorem dX10_keep_14 : decode cX10_keep 14 = .ok (.aload_n 0, 1) := by decide +kernel
theorem dX10_keep_15 : decode cX10_keep 15 = .ok (.getfield 67, 3) := by decide +kernel
theorem dX10_keep_18 : decode cX10_keep 18 = .ok (.arraylength, 1) := by decide +kernel
theorem dX10_keep_19 : decode cX10_keep 19 = .ok (.if_icmp .lt 6, 3) := by decide +kernel
theorem dX10_keep_22 : decode cX10_keep 22 = .ok (.bipush (-2), 2) := by decide +kernel
theorem dX10_keep_24 : decode cX10_keep 24 = .ok (.ireturn, 1) := by decide +kernel
theorem dX10_keep_25 : decode cX10_keep 25 = .ok (.aload_n 0, 1) := by decide +kernel
theorem dX10_keep_26 : decode cX10_keep 26 = .ok (.getfield 63, 3) := by decide +kernel
theorem dX10_keep_29 : decode cX10_keep 29 = .ok (.iload_n 1, 1) := by decide +kernel
theorem dX10_keep_30 : decode cX10_keep 30 = .ok (.aload_n 0, 1) := by decide +kernel
theorem dX10_keep_31 : decode cX10_keep 31 = .ok (.getfield 114, 3) := by decide +kernel
theorem dX10_keep_34 : decode cX10_keep 34 = .ok (.iastore, 1) := by decide +kernel
theorem dX10_keep_35 : decode cX10_keep 35 = .ok (.aload_n 0, 1) := by decide +kernel
theorem dX10_keep_36 : decode cX10_keep 36 = .ok (.getfield 67, 3) := by decide +kernel
theorem dX10_keep_39 : decode cX10_keep 39 = .ok (.iload_n 1, 1) := by decide +kernel
theorem dX10_keep_40 : decode cX10_keep 40 = .ok (.aload_n 0, 1) := by decide +kernel
theorem dX10_keep_41 : decode cX10_keep 41 = .ok (.getfield 118, 3) := by decide +kernel
theorem dX10_keep_44 : decode cX10_keep 44 = .ok (.iastore, 1) := by decide +kernel
theorem dX10_keep_45 : decode cX10_keep 45 = .ok (.aload_n 0, 1) := by decide +kernel
theorem dX10_keep_46 : decode cX10_keep 46 = .ok (.getfield 118, 3) := by decide +kernel
theorem dX10_keep_49 : decode cX10_keep 49 = .ok (.ireturn, 1) := by decide +kernel
theorem dX10_back_0 : decode cX10_back 0 = .ok (.iload_n 1, 1) := by decide +kernel
theorem dX10_back_1 : decode cX10_back 1 = .ok (.ifCond .lt 21, 3) := by decide +kernel
theorem dX10_back_4 : decode cX10_back 4 = .ok (.iload_n 1, 1) := by decide +kernel
theorem dX10_back_5 : decode cX10_back 5 = .ok (.aload_n 0, 1) := by decide +kernel
theorem dX10_back_6 : decode cX10_back 6 = .ok (.getfield 63, 3) := by decide +kernel
theorem dX10_back_9 : decode cX10_back 9 = .ok (.arraylength, 1) := by decide +kernel
theorem dX10_back_10 : decode cX10_back 10 = .ok (.if_icmp .ge 12, 3) := by decide +kernel
theorem dX10_back_13 : decode cX10_back 13 = .ok (.iload_n 1, 1) := by decide +kernel
theorem dX10_back_14 : decode cX10_back 14 = .ok (.aload_n 0, 1) := by decide +kernel
theorem dX10_back_15 : decode cX10_back 15 = .ok (.getfield 67, 3) := by decide +kernel
theorem dX10_back_18 : decode cX10_back 18 = .ok (.arraylength, 1) := by decide +kernel
theorem dX10_back_19 : decode cX10_back 19 = .ok (.if_icmp .lt 6, 3) := by decide +kernel
theorem dX10_back_22 : decode cX10_back 22 = .ok (.bipush (-2), 2) := by decide +kernel
theorem dX10_back_24 : decode cX10_back 24 = .ok (.ireturn, 1) := by decide +kernel
theorem dX10_back_25 : decode cX10_back 25 = .ok (.aload_n 0, 1) := by decide +kernel
theorem dX10_back_26 : decode cX10_back 26 = .ok (.getfield 67, 3) := by decide +kernel
theorem dX10_back_29 : decode cX10_back 29 = .ok (.iload_n 1, 1) := by decide +kernel
theorem dX10_back_30 : decode cX10_back 30 = .ok (.iaload, 1) := by decide +kernel
theorem dX10_back_31 : decode cX10_back 31 = .ok (.iconst (-1), 1) := by decide +kernel
theorem dX10_back_32 : decode cX10_back 32 = .ok (.if_icmp .ne 6, 3) := by decide +kernel
theorem dX10_back_35 : decode cX10_back 35 = .ok (.bipush (-4), 2) := by decide +kernel
theorem dX10_back_37 : decode cX10_back 37 = .ok (.ireturn, 1) := by decide +kernel
theorem dX10_back_38 : decode cX10_back 38 = .ok (.aload_n 0, 1) := by decide +kernel
theorem dX10_back_39 : decode cX10_back 39 = .ok (.aload_n 0, 1) := by decide +kernel
theorem dX10_back_40 : decode cX10_back 40 = .ok (.getfield 63, 3) := by decide +kernel
theorem dX10_back_43 : decode cX10_back 43 = .ok (.iload_n 1, 1) := by decide +kernel
theorem dX10_back_44 : decode cX10_back 44 = .ok (.iaload, 1) := by decide +kernel
theorem dX10_back_45 : decode cX10_back 45 = .ok (.putfield 114, 3) := by decide +kernel
theorem dX10_back_48 : decode cX10_back 48 = .ok (.aload_n 0, 1) := by decide +kernel
theorem dX10_back_49 : decode cX10_back 49 = .ok (.aload_n 0, 1) := by decide +kernel
theorem dX10_back_50 : decode cX10_back 50 = .ok (.getfield 67, 3) := by decide +kernel
theorem dX10_back_53 : decode cX10_back 53 = .ok (.iload_n 1, 1) := by decide +kernel
theorem dX10_back_54 : decode cX10_back 54 = .ok (.iaload, 1) := by decide +kernel
theorem dX10_back_55 : decode cX10_back 55 = .ok (.putfield 118, 3) := by decide +kernel
theorem dX10_back_58 : decode cX10_back 58 = .ok (.aload_n 0, 1) := by decide +kernel
theorem dX10_back_59 : decode cX10_back 59 = .ok (.getfield 60, 3) := by decide +kernel
theorem dX10_back_62 : decode cX10_back 62 = .ok (.invokevirtual 87, 3) := by decide +kernel
theorem dX10_back_65 : decode cX10_back 65 = .ok (.pop, 1) := by decide +kernel
theorem dX10_back_66 : decode cX10_back 66 = .ok (.aload_n 0, 1) := by decide +kernel
theorem dX10_back_67 : decode cX10_back 67 = .ok (.getfield 118, 3) := by decide +kernel
theorem dX10_back_70 : decode cX10_back 70 = .ok (.ireturn, 1) := by decide +kernel
theorem dX8_hasAll_0 : decode cX8_hasAll 0 = .ok (.iload_n 1, 1) := by decide +kernel
theorem dX8_hasAll_1 : decode cX8_hasAll 1 = .ok (.ifCond .lt 17, 3) := by decide +kernel
theorem dX8_hasAll_4 : decode cX8_hasAll 4 = .ok (.iload_n 1, 1) := by decide +kernel
theorem dX8_hasAll_5 : decode cX8_hasAll 5 = .ok (.iconst 1, 1) := by decide +kernel
theorem dX8_hasAll_6 : decode cX8_hasAll 6 = .ok (.aload_n 0, 1) := by decide +kernel
theorem dX8_hasAll_7 : decode cX8_hasAll 7 = .ok (.getfield 34, 3) := by decide +kernel
theorem dX8_hasAll_10 : decode cX8_hasAll 10 = .ok (.ishl, 1) := by decide +kernel
theorem dX8_hasAll_11 : decode cX8_hasAll 11 = .ok (.if_icmp .ge 7, 3) := by decide +kernel
theorem dX8_hasAll_14 : decode cX8_hasAll 14 = .ok (.iconst 1, 1) := by decide +kernel
theorem dX8_hasAll_15 : decode cX8_hasAll 15 = .ok (.goto 4, 3) := by decide +kernel
theorem dX8_hasAll_18 : decode cX8_hasAll 18 = .ok (.iconst 0, 1) := by decide +kernel
theorem dX8_hasAll_19 : decode cX8_hasAll 19 = .ok (.ireturn, 1) := by decide +kernel
theorem dX8_everybody_0 : decode cX8_everybody 0 = .ok (.iconst 1, 1) := by decide +kernel
theorem dX8_everybody_1 : decode cX8_everybody 1 = .ok (.aload_n 0, 1) := by decide +kernel
theorem dX8_everybody_2 : decode cX8_everybody 2 = .ok (.getfield 9, 3) := by decide +kernel
theorem dX8_everybody_5 : decode cX8_everybody 5 = .ok (.ishl, 1) := by decide +kernel
theorem dX8_everybody_6 : decode cX8_everybody 6 = .ok (.iconst 1, 1) := by decide +kernel
theorem dX8_everybody_7 : decode cX8_everybody 7 = .ok (.isub, 1) := by decide +kernel
theorem dX8_everybody_8 : decode cX8_everybody 8 = .ok (.ireturn, 1) := by decide +kernel
theorem dX4_mostStates_0 : decode cX4_mostStates 0 = .ok (.sipush 224, 3) := by decide +kernel
theorem dX4_mostStates_3 : decode cX4_mostStates 3 = .ok (.aload_n 0, 1) := by decide +kernel
theorem dX4_mostStates_4 : decode cX4_mostStates 4 = .ok (.getfield 61, 3) := by decide +kernel
theorem dX4_mostStates_7 : decode cX4_mostStates 7 = .ok (.aload_n 0, 1) := by decide +kernel
theorem dX4_mostStates_8 : decode cX4_mostStates 8 = .ok (.getfield 73, 3) := by decide +kernel
theorem dX4_mostStates_11 : decode cX4_mostStates 11 = .ok (.iadd, 1) := by decide +kernel
theorem dX4_mostStates_12 : decode cX4_mostStates 12 = .ok (.ishl, 1) := by decide +kernel
theorem dX4_mostStates_13 : decode cX4_mostStates 13 = .ok (.istore_n 1, 1) := by decide +kernel
theorem dX4_mostStates_14 : decode cX4_mostStates 14 = .ok (.iload_n 1, 1) := by decide +kernel
theorem dX4_mostStates_15 : decode cX4_mostStates 15 = .ok (.iconst 1, 1) := by decide +kernel
theorem dX4_mostStates_16 : decode cX4_mostStates 16 = .ok (.if_icmp .lt 9, 3) := by decide +kernel
theorem dX4_mostStates_19 : decode cX4_mostStates 19 = .ok (.iload_n 1, 1) := by decide +kernel
theorem dX4_mostStates_20 : decode cX4_mostStates 20 = .ok (.ldc 149, 2) := by decide +kernel
theorem dX4_mostStates_22 : decode cX4_mostStates 22 = .ok (.if_icmp .le 8, 3) := by decide +kernel
theorem dX4_mostStates_25 : decode cX4_mostStates 25 = .ok (.ldc 149, 2) := by decide +kernel
theorem dX4_mostStates_27 : decode cX4_mostStates 27 = .ok (.goto 4, 3) := by decide +kernel
theorem dX4_mostStates_30 : decode cX4_mostStates 30 = .ok (.iload_n 1, 1) := by decide +kernel
theorem dX4_mostStates_31 : decode cX4_mostStates 31 = .ok (.ireturn, 1) := by decide +kernel
theorem dX4_deedsBy_0 : decode cX4_deedsBy 0 = .ok (.iconst 0, 1) := by decide +kernel
theorem dX4_deedsBy_1 : decode cX4_deedsBy 1 = .ok (.istore_n 2, 1) := by decide +kernel
theorem dX4_deedsBy_2 : decode cX4_deedsBy 2 = .ok (.iconst 0, 1) := by decide +kernel
theorem dX4_deedsBy_3 : decode cX4_deedsBy 3 = .ok (.istore_n 3, 1) := by decide +kernel
theorem dX4_deedsBy_4 : decode cX4_deedsBy 4 = .ok (.iload_n 3, 1) := by decide +kernel
theorem dX4_deedsBy_5 : decode cX4_deedsBy 5 = .ok (.aload_n 0, 1) := by decide +kernel
theorem dX4_deedsBy_6 : decode cX4_deedsBy 6 = .ok (.getfield 137, 3) := by decide +kernel
theorem dX4_deedsBy_9 : decode cX4_deedsBy 9 = .ok (.if_icmp .ge 44, 3) := by decide +kernel
theorem dX4_deedsBy_12 : decode cX4_deedsBy 12 = .ok (.iload_n 3, 1) := by decide +kernel
theorem dX4_deedsBy_13 : decode cX4_deedsBy 13 = .ok (.bipush 19, 2) := by decide +kernel
theorem dX4_deedsBy_15 : decode cX4_deedsBy 15 = .ok (.if_icmp .ge 38, 3) := by decide +kernel
theorem dX4_deedsBy_18 : decode cX4_deedsBy 18 = .ok (.aload_n 0, 1) := by decide +kernel
theorem dX4_deedsBy_19 : decode cX4_deedsBy 19 = .ok (.getfield 37, 3) := by decide +kernel
theorem dX4_deedsBy_22 : decode cX4_deedsBy 22 = .ok (.iload_n 3, 1) := by decide +kernel
theorem dX4_deedsBy_23 : decode cX4_deedsBy 23 = .ok (.iaload, 1) := by decide +kernel
theorem dX4_deedsBy_24 : decode cX4_deedsBy 24 = .ok (.iconst (-1), 1) := by decide +kernel
theorem dX4_deedsBy_25 : decode cX4_deedsBy 25 = .ok (.if_icmp .eq 16, 3) := by decide +kernel
theorem dX4_deedsBy_28 : decode cX4_deedsBy 28 = .ok (.iload_n 1, 1) := by decide +kernel
theorem dX4_deedsBy_29 : decode cX4_deedsBy 29 = .ok (.aload_n 0, 1) := by decide +kernel
theorem dX4_deedsBy_30 : decode cX4_deedsBy 30 = .ok (.getfield 37, 3) := by decide +kernel
theorem dX4_deedsBy_33 : decode cX4_deedsBy 33 = .ok (.iload_n 3, 1) := by decide +kernel
theorem dX4_deedsBy_34 : decode cX4_deedsBy 34 = .ok (.iaload, 1) := by decide +kernel
theorem dX4_deedsBy_35 : decode cX4_deedsBy 35 = .ok (.ishr, 1) := by decide +kernel
theorem dX4_deedsBy_36 : decode cX4_deedsBy 36 = .ok (.iconst 1, 1) := by decide +kernel
theorem dX4_deedsBy_37 : decode cX4_deedsBy 37 = .ok (.iand, 1) := by decide +kernel
theorem dX4_deedsBy_38 : decode cX4_deedsBy 38 = .ok (.ifCond .eq 9, 3) := by decide +kernel
theorem dX4_deedsBy_41 : decode cX4_deedsBy 41 = .ok (.iload_n 2, 1) := by decide +kernel
theorem dX4_deedsBy_42 : decode cX4_deedsBy 42 = .ok (.iconst 1, 1) := by decide +kernel
theorem dX4_deedsBy_43 : decode cX4_deedsBy 43 = .ok (.iload_n 3, 1) := by decide +kernel
theorem dX4_deedsBy_44 : decode cX4_deedsBy 44 = .ok (.ishl, 1) := by decide +kernel
theorem dX4_deedsBy_45 : decode cX4_deedsBy 45 = .ok (.ior, 1) := by decide +kernel
theorem dX4_deedsBy_46 : decode cX4_deedsBy 46 = .ok (.istore_n 2, 1) := by decide +kernel
theorem dX4_deedsBy_47 : decode cX4_deedsBy 47 = .ok (.iinc 3 1, 3) := by decide +kernel
theorem dX4_deedsBy_50 : decode cX4_deedsBy 50 = .ok (.goto (-46), 3) := by decide +kernel
theorem dX4_deedsBy_53 : decode cX4_deedsBy 53 = .ok (.iload_n 2, 1) := by decide +kernel
theorem dX4_deedsBy_54 : decode cX4_deedsBy 54 = .ok (.ireturn, 1) := by decide +kernel
theorem dX5_add_0 : decode cX5_add 0 = .ok (.iload_n 1, 1) := by decide +kernel
theorem dX5_add_1 : decode cX5_add 1 = .ok (.bipush 6, 2) := by decide +kernel
theorem dX5_add_3 : decode cX5_add 3 = .ok (.ishr, 1) := by decide +kernel
theorem dX5_add_4 : decode cX5_add 4 = .ok (.istore 5, 2) := by decide +kernel
theorem dX5_add_6 : decode cX5_add 6 = .ok (.iload 5, 2) := by decide +kernel
theorem dX5_add_8 : decode cX5_add 8 = .ok (.ifCond .lt 32, 3) := by decide +kernel
theorem dX5_add_11 : decode cX5_add 11 = .ok (.iload 5, 2) := by decide +kernel
theorem dX5_add_13 : decode cX5_add 13 = .ok (.aload_n 0, 1) := by decide +kernel
theorem dX5_add_14 : decode cX5_add 14 = .ok (.getfield 11, 3) := by decide +kernel
theorem dX5_add_17 : decode cX5_add 17 = .ok (.arraylength, 1) := by decide +kernel
theorem dX5_add_18 : decode cX5_add 18 = .ok (.if_icmp .ge 22, 3) := by decide +kernel
theorem dX5_add_21 : decode cX5_add 21 = .ok (.aload_n 0, 1) := by decide +kernel
theorem dX5_add_22 : decode cX5_add 22 = .ok (.getfield 50, 3) := by decide +kernel
theorem dX5_add_25 : decode cX5_add 25 = .ok (.ifCond .lt 15, 3) := by decide +kernel
theorem dX5_add_28 : decode cX5_add 28 = .ok (.aload_n 0, 1) := by decide +kernel
theorem dX5_add_29 : decode cX5_add 29 = .ok (.getfield 50, 3) := by decide +kernel
theorem dX5_add_32 : decode cX5_add 32 = .ok (.aload_n 0, 1) := by decide +kernel
theorem dX5_add_33 : decode cX5_add 33 = .ok (.getfield 17, 3) := by decide +kernel
theorem dX5_add_36 : decode cX5_add 36 = .ok (.arraylength, 1) := by decide +kernel
theorem dX5_add_37 : decode cX5_add 37 = .ok (.if_icmp .lt 4, 3) := by decide +kernel
theorem dX5_add_40 : decode cX5_add 40 = .ok (.return_, 1) := by decide +kernel
theorem dX5_add_41 : decode cX5_add 41 = .ok (.lconst 1, 1) := by decide +kernel
theorem dX5_add_42 : decode cX5_add 42 = .ok (.iload_n 1, 1) := by decide +kernel
theorem dX5_add_43 : decode cX5_add 43 = .ok (.bipush 63, 2) := by decide +kernel
theorem dX5_add_45 : decode cX5_add 45 = .ok (.iand, 1) := by decide +kernel
theorem dX5_add_46 : decode cX5_add 46 = .ok (.lshl, 1) := by decide +kernel
theorem dX5_add_47 : decode cX5_add 47 = .ok (.lstore 6, 2) := by decide +kernel
theorem dX5_add_49 : decode cX5_add 49 = .ok (.aload_n 0, 1) := by decide +kernel
theorem dX5_add_50 : decode cX5_add 50 = .ok (.getfield 11, 3) := by decide +kernel
theorem dX5_add_53 : decode cX5_add 53 = .ok (.iload 5, 2) := by decide +kernel
theorem dX5_add_55 : decode cX5_add 55 = .ok (.laload, 1) := by decide +kernel
theorem dX5_add_56 : decode cX5_add 56 = .ok (.lload 6, 2) := by decide +kernel
theorem dX5_add_58 : decode cX5_add 58 = .ok (.land, 1) := by decide +kernel
theorem dX5_add_59 : decode cX5_add 59 = .ok (.lconst 0, 1) := by decide +kernel
theorem dX5_add_60 : decode cX5_add 60 = .ok (.lcmp, 1) := by decide +kernel
theorem dX5_add_61 : decode cX5_add 61 = .ok (.ifCond .ne 55, 3) := by decide +kernel
theorem dX5_add_64 : decode cX5_add 64 = .ok (.aload_n 0, 1) := by decide +kernel
theorem dX5_add_65 : decode cX5_add 65 = .ok (.getfield 11, 3) := by decide +kernel
theorem dX5_add_68 : decode cX5_add 68 = .ok (.iload 5, 2) := by decide +kernel
theorem dX5_add_70 : decode cX5_add 70 = .ok (.dup2, 1) := by decide +kernel
theorem dX5_add_71 : decode cX5_add 71 = .ok (.laload, 1) := by decide +kernel
theorem dX5_add_72 : decode cX5_add 72 = .ok (.lload 6, 2) := by decide +kernel
theorem dX5_add_74 : decode cX5_add 74 = .ok (.lor, 1) := by decide +kernel
theorem dX5_add_75 : decode cX5_add 75 = .ok (.lastore, 1) := by decide +kernel
theorem dX5_add_76 : decode cX5_add 76 = .ok (.aload_n 0, 1) := by decide +kernel
theorem dX5_add_77 : decode cX5_add 77 = .ok (.getfield 17, 3) := by decide +kernel
theorem dX5_add_80 : decode cX5_add 80 = .ok (.aload_n 0, 1) := by decide +kernel
theorem dX5_add_81 : decode cX5_add 81 = .ok (.getfield 50, 3) := by decide +kernel
theorem dX5_add_84 : decode cX5_add 84 = .ok (.iload_n 1, 1) := by decide +kernel
theorem dX5_add_85 : decode cX5_add 85 = .ok (.i2l, 1) := by decide +kernel
theorem dX5_add_86 : decode cX5_add 86 = .ok (.iload_n 2, 1) := by decide +kernel
theorem dX5_add_87 : decode cX5_add 87 = .ok (.i2l, 1) := by decide +kernel
theorem dX5_add_88 : decode cX5_add 88 = .ok (.bipush 16, 2) := by decide +kernel
theorem dX5_add_90 : decode cX5_add 90 = .ok (.lshl, 1) := by decide +kernel
theorem dX5_add_91 : decode cX5_add 91 = .ok (.lor, 1) := by decide +kernel
theorem dX5_add_92 : decode cX5_add 92 = .ok (.iload_n 3, 1) := by decide +kernel
theorem dX5_add_93 : decode cX5_add 93 = .ok (.i2l, 1) := by decide +kernel
theorem dX5_add_94 : decode cX5_add 94 = .ok (.bipush 24, 2) := by decide +kernel
theorem dX5_add_96 : decode cX5_add 96 = .ok (.lshl, 1) := by decide +kernel
theorem dX5_add_97 : decode cX5_add 97 = .ok (.lor, 1) := by decide +kernel
theorem dX5_add_98 : decode cX5_add 98 = .ok (.iload 4, 2) := by decide +kernel
theorem dX5_add_100 : decode cX5_add 100 = .ok (.i2l, 1) := by decide +kernel
theorem dX5_add_101 : decode cX5_add 101 = .ok (.bipush 40, 2) := by decide +kernel
theorem dX5_add_103 : decode cX5_add 103 = .ok (.lshl, 1) := by decide +kernel
theorem dX5_add_104 : decode cX5_add 104 = .ok (.lor, 1) := by decide +kernel
theorem dX5_add_105 : decode cX5_add 105 = .ok (.lastore, 1) := by decide +kernel
theorem dX5_add_106 : decode cX5_add 106 = .ok (.aload_n 0, 1) := by decide +kernel
theorem dX5_add_107 : decode cX5_add 107 = .ok (.dup, 1) := by decide +kernel
theorem dX5_add_108 : decode cX5_add 108 = .ok (.getfield 50, 3) := by decide +kernel
theorem dX5_add_111 : decode cX5_add 111 = .ok (.iconst 1, 1) := by decide +kernel
theorem dX5_add_112 : decode cX5_add 112 = .ok (.iadd, 1) := by decide +kernel
theorem dX5_add_113 : decode cX5_add 113 = .ok (.putfield 50, 3) := by decide +kernel
theorem dX5_add_116 : decode cX5_add 116 = .ok (.return_, 1) := by decide +kernel
theorem dX5_begin_0 : decode cX5_begin 0 = .ok (.aload_n 0, 1) := by decide +kernel
theorem dX5_begin_1 : decode cX5_begin 1 = .ok (.getfield 17, 3) := by decide +kernel
theorem dX5_begin_4 : decode cX5_begin 4 = .ok (.arraylength, 1) := by decide +kernel
theorem dX5_begin_5 : decode cX5_begin 5 = .ok (.aload_n 0, 1) := by decide +kernel
theorem dX5_begin_6 : decode cX5_begin 6 = .ok (.getfield 24, 3) := by decide +kernel
theorem dX5_begin_9 : decode cX5_begin 9 = .ok (.invokevirtual 38, 3) := by decide +kernel
theorem dX5_begin_12 : decode cX5_begin 12 = .ok (.if_icmp .ge 16, 3) := by decide +kernel
theorem dX5_begin_15 : decode cX5_begin 15 = .ok (.aload_n 0, 1) := by decide +kernel
theorem dX5_begin_16 : decode cX5_begin 16 = .ok (.aload_n 0, 1) := by decide +kernel
theorem dX5_begin_17 : decode cX5_begin 17 = .ok (.getfield 24, 3) := by decide +kernel
theorem dX5_begin_20 : decode cX5_begin 20 = .ok (.invokevirtual 38, 3) := by decide +kernel
theorem dX5_begin_23 : decode cX5_begin 23 = .ok (.newarray .long, 2) := by decide +kernel
theorem dX5_begin_25 : decode cX5_begin 25 = .ok (.putfield 17, 3) := by decide +kernel
theorem dX5_begin_28 : decode cX5_begin 28 = .ok (.aload_n 0, 1) := by decide +kernel
theorem dX5_begin_29 : decode cX5_begin 29 = .ok (.getfield 11, 3) := by decide +kernel
theorem dX5_begin_32 : decode cX5_begin 32 = .ok (.lconst 0, 1) := by decide +kernel
theorem dX5_begin_33 : decode cX5_begin 33 = .ok (.invokestatic 44, 3) := by decide +kernel
theorem dX5_begin_36 : decode cX5_begin 36 = .ok (.aload_n 0, 1) := by decide +kernel
theorem dX5_begin_37 : decode cX5_begin 37 = .ok (.iconst 0, 1) := by decide +kernel
theorem dX5_begin_38 : decode cX5_begin 38 = .ok (.putfield 50, 3) := by decide +kernel
theorem dX5_begin_41 : decode cX5_begin 41 = .ok (.aload_n 0, 1) := by decide +kernel
theorem dX5_begin_42 : decode cX5_begin 42 = .ok (.iconst 0, 1) := by decide +kernel
theorem dX5_begin_43 : decode cX5_begin 43 = .ok (.putfield 53, 3) := by decide +kernel
theorem dX5_begin_46 : decode cX5_begin 46 = .ok (.aload_n 0, 1) := by decide +kernel
theorem dX5_begin_47 : decode cX5_begin 47 = .ok (.iload_n 1, 1) := by decide +kernel
theorem dX5_begin_48 : decode cX5_begin 48 = .ok (.putfield 20, 3) := by decide +kernel
theorem dX5_begin_51 : decode cX5_begin 51 = .ok (.aload_n 0, 1) := by decide +kernel
theorem dX5_begin_52 : decode cX5_begin 52 = .ok (.iload_n 2, 1) := by decide +kernel
theorem dX5_begin_53 : decode cX5_begin 53 = .ok (.putfield 28, 3) := by decide +kernel
theorem dX5_begin_56 : decode cX5_begin 56 = .ok (.aload_n 0, 1) := by decide +kernel
theorem dX5_begin_57 : decode cX5_begin 57 = .ok (.iload_n 3, 1) := by decide +kernel
theorem dX5_begin_58 : decode cX5_begin 58 = .ok (.putfield 31, 3) := by decide +kernel
theorem dX5_begin_61 : decode cX5_begin 61 = .ok (.aload_n 0, 1) := by decide +kernel
theorem dX5_begin_62 : decode cX5_begin 62 = .ok (.aload_n 0, 1) := by decide +kernel
theorem dX5_begin_63 : decode cX5_begin 63 = .ok (.getfield 24, 3) := by decide +kernel
theorem dX5_begin_66 : decode cX5_begin 66 = .ok (.iload_n 2, 1) := by decide +kernel
theorem dX5_begin_67 : decode cX5_begin 67 = .ok (.invokevirtual 56, 3) := by decide +kernel
theorem dX5_begin_70 : decode cX5_begin 70 = .ok (.putfield 60, 3) := by decide +kernel
theorem dX5_begin_73 : decode cX5_begin 73 = .ok (.aload_n 0, 1) := by decide +kernel
theorem dX5_begin_74 : decode cX5_begin 74 = .ok (.iload_n 1, 1) := by decide +kernel
theorem dX5_begin_75 : decode cX5_begin 75 = .ok (.iconst 0, 1) := by decide +kernel
theorem dX5_begin_76 : decode cX5_begin 76 = .ok (.iconst 0, 1) := by decide +kernel
theorem dX5_begin_77 : decode cX5_begin 77 = .ok (.iconst 0, 1) := by decide +kernel
theorem dX5_begin_78 : decode cX5_begin 78 = .ok (.invokevirtual 63, 3) := by decide +kernel
theorem dX5_begin_81 : decode cX5_begin 81 = .ok (.return_, 1) := by decide +kernel
theorem dX5_ask_0 : decode cX5_ask 0 = .ok (.aload_n 0, 1) := by decide +kernel
theorem dX5_ask_1 : decode cX5_ask 1 = .ok (.getfield 20, 3) := by decide +kernel
theorem dX5_ask_4 : decode cX5_ask 4 = .ok (.iload_n 1, 1) := by decide +kernel
theorem dX5_ask_5 : decode cX5_ask 5 = .ok (.if_icmp .ne 19, 3) := by decide +kernel
theorem dX5_ask_8 : decode cX5_ask 8 = .ok (.aload_n 0, 1) := by decide +kernel
theorem dX5_ask_9 : decode cX5_ask 9 = .ok (.getfield 28, 3) := by decide +kernel
theorem dX5_ask_12 : decode cX5_ask 12 = .ok (.iload_n 2, 1) := by decide +kernel
theorem dX5_ask_13 : decode cX5_ask 13 = .ok (.if_icmp .ne 11, 3) := by decide +kernel
theorem dX5_ask_16 : decode cX5_ask 16 = .ok (.aload_n 0, 1) := by decide +kernel
theorem dX5_ask_17 : decode cX5_ask 17 = .ok (.getfield 31, 3) := by decide +kernel
theorem dX5_ask_20 : decode cX5_ask 20 = .ok (.iload_n 3, 1) := by decide +kernel
theorem dX5_ask_21 : decode cX5_ask 21 = .ok (.if_icmp .eq 10, 3) := by decide +kernel
theorem dX5_ask_24 : decode cX5_ask 24 = .ok (.aload_n 0, 1) := by decide +kernel
theorem dX5_ask_25 : decode cX5_ask 25 = .ok (.iload_n 1, 1) := by decide +kernel
theorem dX5_ask_26 : decode cX5_ask 26 = .ok (.iload_n 2, 1) := by decide +kernel
theorem dX5_ask_27 : decode cX5_ask 27 = .ok (.iload_n 3, 1) := by decide +kernel
theorem dX5_ask_28 : decode cX5_ask 28 = .ok (.invokevirtual 34, 3) := by decide +kernel
theorem dX5_ask_31 : decode cX5_ask 31 = .ok (.return_, 1) := by decide +kernel
theorem dX10_fromNow_0 : decode cX10_fromNow 0 = .ok (.aload_n 0, 1) := by decide +kernel
theorem dX10_fromNow_1 : decode cX10_fromNow 1 = .ok (.getfield 46, 3) := by decide +kernel
theorem dX10_fromNow_4 : decode cX10_fromNow 4 = .ok (.aload_n 0, 1) := by decide +kernel
theorem dX10_fromNow_5 : decode cX10_fromNow 5 = .ok (.getfield 114, 3) := by decide +kernel
theorem dX10_fromNow_8 : decode cX10_fromNow 8 = .ok (.aload_n 0, 1) := by decide +kernel
theorem dX10_fromNow_9 : decode cX10_fromNow 9 = .ok (.getfield 21, 3) := by decide +kernel
theorem dX10_fromNow_12 : decode cX10_fromNow 12 = .ok (.invokevirtual 236, 3) := by decide +kernel
theorem dX10_fromNow_15 : decode cX10_fromNow 15 = .ok (.iconst 0, 1) := by decide +kernel
theorem dX10_fromNow_16 : decode cX10_fromNow 16 = .ok (.invokevirtual 239, 3) := by decide +kernel
theorem dX10_fromNow_19 : decode cX10_fromNow 19 = .ok (.aload_n 0, 1) := by decide +kernel
theorem dX10_fromNow_20 : decode cX10_fromNow 20 = .ok (.getfield 46, 3) := by decide +kernel
theorem dX10_fromNow_23 : decode cX10_fromNow 23 = .ok (.areturn, 1) := by decide +kernel
theorem dX5_stateAt_0 : decode cX5_stateAt 0 = .ok (.iload_n 1, 1) := by decide +kernel
theorem dX5_stateAt_1 : decode cX5_stateAt 1 = .ok (.ifCond .lt 12, 3) := by decide +kernel
theorem dX5_stateAt_4 : decode cX5_stateAt 4 = .ok (.iload_n 1, 1) := by decide +kernel
theorem dX5_stateAt_5 : decode cX5_stateAt 5 = .ok (.aload_n 0, 1) := by decide +kernel
theorem dX5_stateAt_6 : decode cX5_stateAt 6 = .ok (.getfield 17, 3) := by decide +kernel
theorem dX5_stateAt_9 : decode cX5_stateAt 9 = .ok (.arraylength, 1) := by decide +kernel
theorem dX5_stateAt_10 : decode cX5_stateAt 10 = .ok (.if_icmp .lt 7, 3) := by decide +kernel
theorem dX5_stateAt_13 : decode cX5_stateAt 13 = .ok (.iconst 0, 1) := by decide +kernel
theorem dX5_stateAt_14 : decode cX5_stateAt 14 = .ok (.goto 13, 3) := by decide +kernel
theorem dX5_stateAt_17 : decode cX5_stateAt 17 = .ok (.aload_n 0, 1) := by decide +kernel
theorem dX5_stateAt_18 : decode cX5_stateAt 18 = .ok (.getfield 17, 3) := by decide +kernel
theorem dX5_stateAt_21 : decode cX5_stateAt 21 = .ok (.iload_n 1, 1) := by decide +kernel
theorem dX5_stateAt_22 : decode cX5_stateAt 22 = .ok (.laload, 1) := by decide +kernel
theorem dX5_stateAt_23 : decode cX5_stateAt 23 = .ok (.l2i, 1) := by decide +kernel
theorem dX5_stateAt_24 : decode cX5_stateAt 24 = .ok (.invokestatic 67, 3) := by decide +kernel
theorem dX5_stateAt_27 : decode cX5_stateAt 27 = .ok (.ireturn, 1) := by decide +kernel
theorem dX4_nightDeed_0 : decode cX4_nightDeed 0 = .ok (.aload_n 0, 1) := by decide +kernel
theorem dX4_nightDeed_1 : decode cX4_nightDeed 1 = .ok (.getfield 137, 3) := by decide +kernel
theorem dX4_nightDeed_4 : decode cX4_nightDeed 4 = .ok (.iconst 1, 1) := by decide +kernel
theorem dX4_nightDeed_5 : decode cX4_nightDeed 5 = .ok (.isub, 1) := by decide +kernel
theorem dX4_nightDeed_6 : decode cX4_nightDeed 6 = .ok (.ireturn, 1) := by decide +kernel
theorem dX5_distanceAt_0 : decode cX5_distanceAt 0 = .ok (.iload_n 1, 1) := by decide +kernel
theorem dX5_distanceAt_1 : decode cX5_distanceAt 1 = .ok (.ifCond .lt 12, 3) := by decide +kernel
theorem dX5_distanceAt_4 : decode cX5_distanceAt 4 = .ok (.iload_n 1, 1) := by decide +kernel
theorem dX5_distanceAt_5 : decode cX5_distanceAt 5 = .ok (.aload_n 0, 1) := by decide +kernel
theorem dX5_distanceAt_6 : decode cX5_distanceAt 6 = .ok (.getfield 17, 3) := by decide +kernel
theorem dX5_distanceAt_9 : decode cX5_distanceAt 9 = .ok (.arraylength, 1) := by decide +kernel
theorem dX5_distanceAt_10 : decode cX5_distanceAt 10 = .ok (.if_icmp .lt 7, 3) := by decide +kernel
theorem dX5_distanceAt_13 : decode cX5_distanceAt 13 = .ok (.iconst 0, 1) := by decide +kernel
theorem dX5_distanceAt_14 : decode cX5_distanceAt 14 = .ok (.goto 16, 3) := by decide +kernel
theorem dX5_distanceAt_17 : decode cX5_distanceAt 17 = .ok (.aload_n 0, 1) := by decide +kernel
theorem dX5_distanceAt_18 : decode cX5_distanceAt 18 = .ok (.getfield 17, 3) := by decide +kernel
theorem dX5_distanceAt_21 : decode cX5_distanceAt 21 = .ok (.iload_n 1, 1) := by decide +kernel
theorem dX5_distanceAt_22 : decode cX5_distanceAt 22 = .ok (.laload, 1) := by decide +kernel
theorem dX5_distanceAt_23 : decode cX5_distanceAt 23 = .ok (.bipush 40, 2) := by decide +kernel
theorem dX5_distanceAt_25 : decode cX5_distanceAt 25 = .ok (.lshr, 1) := by decide +kernel
theorem dX5_distanceAt_26 : decode cX5_distanceAt 26 = .ok (.l2i, 1) := by decide +kernel
theorem dX5_distanceAt_27 : decode cX5_distanceAt 27 = .ok (.ldc 70, 2) := by decide +kernel
theorem dX5_distanceAt_29 : decode cX5_distanceAt 29 = .ok (.iand, 1) := by decide +kernel
theorem dX5_distanceAt_30 : decode cX5_distanceAt 30 = .ok (.ireturn, 1) := by decide +kernel
theorem dX5_open_0 : decode cX5_open 0 = .ok (.aload_n 0, 1) := by decide +kernel
theorem dX5_open_1 : decode cX5_open 1 = .ok (.iload_n 1, 1) := by decide +kernel
theorem dX5_open_2 : decode cX5_open 2 = .ok (.iconst 1, 1) := by decide +kernel
theorem dX5_open_3 : decode cX5_open 3 = .ok (.iadd, 1) := by decide +kernel
theorem dX5_open_4 : decode cX5_open 4 = .ok (.putfield 53, 3) := by decide +kernel
theorem dX5_open_7 : decode cX5_open 7 = .ok (.aload_n 0, 1) := by decide +kernel
theorem dX5_open_8 : decode cX5_open 8 = .ok (.iload_n 1, 1) := by decide +kernel
theorem dX5_open_9 : decode cX5_open 9 = .ok (.invokevirtual 71, 3) := by decide +kernel
theorem dX5_open_12 : decode cX5_open 12 = .ok (.istore 4, 2) := by decide +kernel
theorem dX5_open_14 : decode cX5_open 14 = .ok (.aload_n 0, 1) := by decide +kernel
theorem dX5_open_15 : decode cX5_open 15 = .ok (.iload_n 1, 1) := by decide +kernel
theorem dX5_open_16 : decode cX5_open 16 = .ok (.invokevirtual 74, 3) := by decide +kernel
theorem dX5_open_19 : decode cX5_open 19 = .ok (.iconst 1, 1) := by decide +kernel
theorem dX5_open_20 : decode cX5_open 20 = .ok (.iadd, 1) := by decide +kernel
theorem dX5_open_21 : decode cX5_open 21 = .ok (.istore 5, 2) := by decide +kernel
theorem dX5_open_23 : decode cX5_open 23 = .ok (.iload_n 2, 1) := by decide +kernel
theorem dX5_open_24 : decode cX5_open 24 = .ok (.istore 6, 2) := by decide +kernel
theorem dX5_open_26 : decode cX5_open 26 = .ok (.iload 6, 2) := by decide +kernel
theorem dX5_open_28 : decode cX5_open 28 = .ok (.iload_n 3, 1) := by decide +kernel
theorem dX5_open_29 : decode cX5_open 29 = .ok (.if_icmp .gt 78, 3) := by decide +kernel
theorem dX5_open_32 : decode cX5_open 32 = .ok (.iload 6, 2) := by decide +kernel
theorem dX5_open_34 : decode cX5_open 34 = .ok (.bipush 19, 2) := by decide +kernel
theorem dX5_open_36 : decode cX5_open 36 = .ok (.if_icmp .ge 71, 3) := by decide +kernel
theorem dX5_open_39 : decode cX5_open 39 = .ok (.aload_n 0, 1) := by decide +kernel
theorem dX5_open_40 : decode cX5_open 40 = .ok (.getfield 60, 3) := by decide +kernel
theorem dX5_open_43 : decode cX5_open 43 = .ok (.iload 6, 2) := by decide +kernel
theorem dX5_open_45 : decode cX5_open 45 = .ok (.ishr, 1) := by decide +kernel
theorem dX5_open_46 : decode cX5_open 46 = .ok (.iconst 1, 1) := by decide +kernel
theorem dX5_open_47 : decode cX5_open 47 = .ok (.iand, 1) := by decide +kernel
theorem dX5_open_48 : decode cX5_open 48 = .ok (.ifCond .ne 7, 3) := by decide +kernel
theorem dX5_open_51 : decode cX5_open 51 = .ok (.iconst (-1), 1) := by decide +kernel
theorem dX5_open_52 : decode cX5_open 52 = .ok (.goto 14, 3) := by decide +kernel
theorem dX5_open_55 : decode cX5_open 55 = .ok (.aload_n 0, 1) := by decide +kernel
theorem dX5_open_56 : decode cX5_open 56 = .ok (.getfield 24, 3) := by decide +kernel
theorem dX5_open_59 : decode cX5_open 59 = .ok (.iload 4, 2) := by decide +kernel
theorem dX5_open_61 : decode cX5_open 61 = .ok (.iload 6, 2) := by decide +kernel
theorem dX5_open_63 : decode cX5_open 63 = .ok (.invokevirtual 79, 3) := by decide +kernel
theorem dX5_open_66 : decode cX5_open 66 = .ok (.istore 7, 2) := by decide +kernel
theorem dX5_open_68 : decode cX5_open 68 = .ok (.iload 7, 2) := by decide +kernel
theorem dX5_open_70 : decode cX5_open 70 = .ok (.iconst (-1), 1) := by decide +kernel
theorem dX5_open_71 : decode cX5_open 71 = .ok (.if_icmp .eq 30, 3) := by decide +kernel
theorem dX5_open_74 : decode cX5_open 74 = .ok (.iload 7, 2) := by decide +kernel
theorem dX5_open_76 : decode cX5_open 76 = .ok (.invokestatic 83, 3) := by decide +kernel
theorem dX5_open_79 : decode cX5_open 79 = .ok (.aload_n 0, 1) := by decide +kernel
theorem dX5_open_80 : decode cX5_open 80 = .ok (.getfield 31, 3) := by decide +kernel
theorem dX5_open_83 : decode cX5_open 83 = .ok (.iand, 1) := by decide +kernel
theorem dX5_open_84 : decode cX5_open 84 = .ok (.ifCond .ne 17, 3) := by decide +kernel
theorem dX5_open_87 : decode cX5_open 87 = .ok (.aload_n 0, 1) := by decide +kernel
theorem dX5_open_88 : decode cX5_open 88 = .ok (.iload 7, 2) := by decide +kernel
theorem dX5_open_90 : decode cX5_open 90 = .ok (.invokestatic 67, 3) := by decide +kernel
theorem dX5_open_93 : decode cX5_open 93 = .ok (.iload 6, 2) := by decide +kernel
theorem dX5_open_95 : decode cX5_open 95 = .ok (.iload_n 1, 1) := by decide +kernel
theorem dX5_open_96 : decode cX5_open 96 = .ok (.iload 5, 2) := by decide +kernel
theorem dX5_open_98 : decode cX5_open 98 = .ok (.invokevirtual 63, 3) := by decide +kernel
theorem dX5_open_101 : decode cX5_open 101 = .ok (.iinc 6 1, 3) := by decide +kernel
theorem dX5_open_104 : decode cX5_open 104 = .ok (.goto (-78), 3) := by decide +kernel
theorem dX5_open_107 : decode cX5_open 107 = .ok (.return_, 1) := by decide +kernel
theorem dX5_firstWithout_0 : decode cX5_firstWithout 0 = .ok (.iconst 0, 1) := by decide +kernel
theorem dX5_firstWithout_1 : decode cX5_firstWithout 1 = .ok (.istore_n 2, 1) := by decide +kernel
theorem dX5_firstWithout_2 : decode cX5_firstWithout 2 = .ok (.iload_n 2, 1) := by decide +kernel
theorem dX5_firstWithout_3 : decode cX5_firstWithout 3 = .ok (.aload_n 0, 1) := by decide +kernel
theorem dX5_firstWithout_4 : decode cX5_firstWithout 4 = .ok (.getfield 50, 3) := by decide +kernel
theorem dX5_firstWithout_7 : decode cX5_firstWithout 7 = .ok (.if_icmp .ge 48, 3) := by decide +kernel
theorem dX5_firstWithout_10 : decode cX5_firstWithout 10 = .ok (.iload_n 2, 1) := by decide +kernel
theorem dX5_firstWithout_11 : decode cX5_firstWithout 11 = .ok (.ldc 86, 2) := by decide +kernel
theorem dX5_firstWithout_13 : decode cX5_firstWithout 13 = .ok (.if_icmp .ge 42, 3) := by decide +kernel
theorem dX5_firstWithout_16 : decode cX5_firstWithout 16 = .ok (.aload_n 0, 1) := by decide +kernel
theorem dX5_firstWithout_17 : decode cX5_firstWithout 17 = .ok (.iload_n 2, 1) := by decide +kernel
theorem dX5_firstWithout_18 : decode cX5_firstWithout 18 = .ok (.invokevirtual 71, 3) := by decide +kernel
theorem dX5_firstWithout_21 : decode cX5_firstWithout 21 = .ok (.iload_n 1, 1) := by decide +kernel
theorem dX5_firstWithout_22 : decode cX5_firstWithout 22 = .ok (.iand, 1) := by decide +kernel
theorem dX5_firstWithout_23 : decode cX5_firstWithout 23 = .ok (.ifCond .ne 5, 3) := by decide +kernel
theorem dX5_firstWithout_26 : decode cX5_firstWithout 26 = .ok (.iload_n 2, 1) := by decide +kernel
theorem dX5_firstWithout_27 : decode cX5_firstWithout 27 = .ok (.ireturn, 1) := by decide +kernel
theorem dX5_firstWithout_28 : decode cX5_firstWithout 28 = .ok (.iload_n 2, 1) := by decide +kernel
theorem dX5_firstWithout_29 : decode cX5_firstWithout 29 = .ok (.aload_n 0, 1) := by decide +kernel
theorem dX5_firstWithout_30 : decode cX5_firstWithout 30 = .ok (.getfield 53, 3) := by decide +kernel
theorem dX5_firstWithout_33 : decode cX5_firstWithout 33 = .ok (.if_icmp .lt 16, 3) := by decide +kernel
theorem dX5_firstWithout_36 : decode cX5_firstWithout 36 = .ok (.aload_n 0, 1) := by decide +kernel
theorem dX5_firstWithout_37 : decode cX5_firstWithout 37 = .ok (.iload_n 2, 1) := by decide +kernel
theorem dX5_firstWithout_38 : decode cX5_firstWithout 38 = .ok (.iconst 0, 1) := by decide +kernel
theorem dX5_firstWithout_39 : decode cX5_firstWithout 39 = .ok (.aload_n 0, 1) := by decide +kernel
theorem dX5_firstWithout_40 : decode cX5_firstWithout 40 = .ok (.getfield 24, 3) := by decide +kernel
theorem dX5_firstWithout_43 : decode cX5_firstWithout 43 = .ok (.invokevirtual 87, 3) := by decide +kernel
theorem dX5_firstWithout_46 : decode cX5_firstWithout 46 = .ok (.invokevirtual 90, 3) := by decide +kernel
theorem dX5_firstWithout_49 : decode cX5_firstWithout 49 = .ok (.iinc 2 1, 3) := by decide +kernel
theorem dX5_firstWithout_52 : decode cX5_firstWithout 52 = .ok (.goto (-50), 3) := by decide +kernel
theorem dX5_firstWithout_55 : decode cX5_firstWithout 55 = .ok (.iconst (-1), 1) := by decide +kernel
theorem dX5_firstWithout_56 : decode cX5_firstWithout 56 = .ok (.ireturn, 1) := by decide +kernel
theorem dX5_fewestWithout_0 : decode cX5_fewestWithout 0 = .ok (.aload_n 0, 1) := by decide +kernel
theorem dX5_fewestWithout_1 : decode cX5_fewestWithout 1 = .ok (.iload_n 1, 1) := by decide +kernel
theorem dX5_fewestWithout_2 : decode cX5_fewestWithout 2 = .ok (.invokevirtual 93, 3) := by decide +kernel
theorem dX5_fewestWithout_5 : decode cX5_fewestWithout 5 = .ok (.istore_n 2, 1) := by decide +kernel
theorem dX5_fewestWithout_6 : decode cX5_fewestWithout 6 = .ok (.iload_n 2, 1) := by decide +kernel
theorem dX5_fewestWithout_7 : decode cX5_fewestWithout 7 = .ok (.iconst (-1), 1) := by decide +kernel
theorem dX5_fewestWithout_8 : decode cX5_fewestWithout 8 = .ok (.if_icmp .ne 7, 3) := by decide +kernel
theorem dX5_fewestWithout_11 : decode cX5_fewestWithout 11 = .ok (.iconst (-1), 1) := by decide +kernel
theorem dX5_fewestWithout_12 : decode cX5_fewestWithout 12 = .ok (.goto 8, 3) := by decide +kernel
theorem dX5_fewestWithout_15 : decode cX5_fewestWithout 15 = .ok (.aload_n 0, 1) := by decide +kernel
theorem dX5_fewestWithout_16 : decode cX5_fewestWithout 16 = .ok (.iload_n 2, 1) := by decide +kernel
theorem dX5_fewestWithout_17 : decode cX5_fewestWithout 17 = .ok (.invokevirtual 74, 3) := by decide +kernel
theorem dX5_fewestWithout_20 : decode cX5_fewestWithout 20 = .ok (.ireturn, 1) := by decide +kernel
theorem dX10_fewest_0 : decode cX10_fewest 0 = .ok (.aload_n 0, 1) := by decide +kernel
theorem dX10_fewest_1 : decode cX10_fewest 1 = .ok (.getfield 21, 3) := by decide +kernel
theorem dX10_fewest_4 : decode cX10_fewest 4 = .ok (.iload_n 1, 1) := by decide +kernel
theorem dX10_fewest_5 : decode cX10_fewest 5 = .ok (.invokevirtual 227, 3) := by decide +kernel
theorem dX10_fewest_8 : decode cX10_fewest 8 = .ok (.ifCond .ne 6, 3) := by decide +kernel
theorem dX10_fewest_11 : decode cX10_fewest 11 = .ok (.bipush (-2), 2) := by decide +kernel
theorem dX10_fewest_13 : decode cX10_fewest 13 = .ok (.ireturn, 1) := by decide +kernel
theorem dX10_fewest_14 : decode cX10_fewest 14 = .ok (.aload_n 0, 1) := by decide +kernel
theorem dX10_fewest_15 : decode cX10_fewest 15 = .ok (.invokevirtual 230, 3) := by decide +kernel
theorem dX10_fewest_18 : decode cX10_fewest 18 = .ok (.iload_n 1, 1) := by decide +kernel
theorem dX10_fewest_19 : decode cX10_fewest 19 = .ok (.invokevirtual 233, 3) := by decide +kernel
theorem dX10_fewest_22 : decode cX10_fewest 22 = .ok (.ireturn, 1) := by decide +kernel
theorem dX10_whatIf_0 : decode cX10_whatIf 0 = .ok (.aload_n 0, 1) := by decide +kernel
theorem dX10_whatIf_1 : decode cX10_whatIf 1 = .ok (.getfield 50, 3) := by decide +kernel
theorem dX10_whatIf_4 : decode cX10_whatIf 4 = .ok (.iload_n 1, 1) := by decide +kernel
theorem dX10_whatIf_5 : decode cX10_whatIf 5 = .ok (.iload_n 2, 1) := by decide +kernel
theorem dX10_whatIf_6 : decode cX10_whatIf 6 = .ok (.iload_n 3, 1) := by decide +kernel
theorem dX10_whatIf_7 : decode cX10_whatIf 7 = .ok (.invokevirtual 239, 3) := by decide +kernel
theorem dX10_whatIf_10 : decode cX10_whatIf 10 = .ok (.aload_n 0, 1) := by decide +kernel
theorem dX10_whatIf_11 : decode cX10_whatIf 11 = .ok (.getfield 50, 3) := by decide +kernel
theorem dX10_whatIf_14 : decode cX10_whatIf 14 = .ok (.areturn, 1) := by decide +kernel
theorem dX5_fromAt_0 : decode cX5_fromAt 0 = .ok (.iload_n 1, 1) := by decide +kernel
theorem dX5_fromAt_1 : decode cX5_fromAt 1 = .ok (.ifCond .lt 12, 3) := by decide +kernel
theorem dX5_fromAt_4 : decode cX5_fromAt 4 = .ok (.iload_n 1, 1) := by decide +kernel
theorem dX5_fromAt_5 : decode cX5_fromAt 5 = .ok (.aload_n 0, 1) := by decide +kernel
theorem dX5_fromAt_6 : decode cX5_fromAt 6 = .ok (.getfield 17, 3) := by decide +kernel
theorem dX5_fromAt_9 : decode cX5_fromAt 9 = .ok (.arraylength, 1) := by decide +kernel
theorem dX5_fromAt_10 : decode cX5_fromAt 10 = .ok (.if_icmp .lt 7, 3) := by decide +kernel
theorem dX5_fromAt_13 : decode cX5_fromAt 13 = .ok (.iconst 0, 1) := by decide +kernel
theorem dX5_fromAt_14 : decode cX5_fromAt 14 = .ok (.goto 16, 3) := by decide +kernel
theorem dX5_fromAt_17 : decode cX5_fromAt 17 = .ok (.aload_n 0, 1) := by decide +kernel
theorem dX5_fromAt_18 : decode cX5_fromAt 18 = .ok (.getfield 17, 3) := by decide +kernel
theorem dX5_fromAt_21 : decode cX5_fromAt 21 = .ok (.iload_n 1, 1) := by decide +kernel
theorem dX5_fromAt_22 : decode cX5_fromAt 22 = .ok (.laload, 1) := by decide +kernel
theorem dX5_fromAt_23 : decode cX5_fromAt 23 = .ok (.bipush 24, 2) := by decide +kernel
theorem dX5_fromAt_25 : decode cX5_fromAt 25 = .ok (.lshr, 1) := by decide +kernel
theorem dX5_fromAt_26 : decode cX5_fromAt 26 = .ok (.l2i, 1) := by decide +kernel
theorem dX5_fromAt_27 : decode cX5_fromAt 27 = .ok (.ldc 70, 2) := by decide +kernel
theorem dX5_fromAt_29 : decode cX5_fromAt 29 = .ok (.iand, 1) := by decide +kernel
theorem dX5_fromAt_30 : decode cX5_fromAt 30 = .ok (.ireturn, 1) := by decide +kernel
theorem dX5_deedAt_0 : decode cX5_deedAt 0 = .ok (.iload_n 1, 1) := by decide +kernel
theorem dX5_deedAt_1 : decode cX5_deedAt 1 = .ok (.ifCond .lt 12, 3) := by decide +kernel
theorem dX5_deedAt_4 : decode cX5_deedAt 4 = .ok (.iload_n 1, 1) := by decide +kernel
theorem dX5_deedAt_5 : decode cX5_deedAt 5 = .ok (.aload_n 0, 1) := by decide +kernel
theorem dX5_deedAt_6 : decode cX5_deedAt 6 = .ok (.getfield 17, 3) := by decide +kernel
theorem dX5_deedAt_9 : decode cX5_deedAt 9 = .ok (.arraylength, 1) := by decide +kernel
theorem dX5_deedAt_10 : decode cX5_deedAt 10 = .ok (.if_icmp .lt 7, 3) := by decide +kernel
theorem dX5_deedAt_13 : decode cX5_deedAt 13 = .ok (.iconst 0, 1) := by decide +kernel
theorem dX5_deedAt_14 : decode cX5_deedAt 14 = .ok (.goto 17, 3) := by decide +kernel
theorem dX5_deedAt_17 : decode cX5_deedAt 17 = .ok (.aload_n 0, 1) := by decide +kernel
theorem dX5_deedAt_18 : decode cX5_deedAt 18 = .ok (.getfield 17, 3) := by decide +kernel
theorem dX5_deedAt_21 : decode cX5_deedAt 21 = .ok (.iload_n 1, 1) := by decide +kernel
theorem dX5_deedAt_22 : decode cX5_deedAt 22 = .ok (.laload, 1) := by decide +kernel
theorem dX5_deedAt_23 : decode cX5_deedAt 23 = .ok (.bipush 16, 2) := by decide +kernel
theorem dX5_deedAt_25 : decode cX5_deedAt 25 = .ok (.lshr, 1) := by decide +kernel
theorem dX5_deedAt_26 : decode cX5_deedAt 26 = .ok (.l2i, 1) := by decide +kernel
theorem dX5_deedAt_27 : decode cX5_deedAt 27 = .ok (.sipush 255, 3) := by decide +kernel
theorem dX5_deedAt_30 : decode cX5_deedAt 30 = .ok (.iand, 1) := by decide +kernel
theorem dX5_deedAt_31 : decode cX5_deedAt 31 = .ok (.ireturn, 1) := by decide +kernel
theorem dX5_deedTo_0 : decode cX5_deedTo 0 = .ok (.aload_n 0, 1) := by decide +kernel
theorem dX5_deedTo_1 : decode cX5_deedTo 1 = .ok (.iload_n 1, 1) := by decide +kernel
theorem dX5_deedTo_2 : decode cX5_deedTo 2 = .ok (.invokevirtual 93, 3) := by decide +kernel
theorem dX5_deedTo_5 : decode cX5_deedTo 5 = .ok (.istore_n 3, 1) := by decide +kernel
theorem dX5_deedTo_6 : decode cX5_deedTo 6 = .ok (.iload_n 3, 1) := by decide +kernel
theorem dX5_deedTo_7 : decode cX5_deedTo 7 = .ok (.iconst (-1), 1) := by decide +kernel
theorem dX5_deedTo_8 : decode cX5_deedTo 8 = .ok (.if_icmp .eq 12, 3) := by decide +kernel
theorem dX5_deedTo_11 : decode cX5_deedTo 11 = .ok (.iload_n 2, 1) := by decide +kernel
theorem dX5_deedTo_12 : decode cX5_deedTo 12 = .ok (.aload_n 0, 1) := by decide +kernel
theorem dX5_deedTo_13 : decode cX5_deedTo 13 = .ok (.iload_n 3, 1) := by decide +kernel
theorem dX5_deedTo_14 : decode cX5_deedTo 14 = .ok (.invokevirtual 74, 3) := by decide +kernel
theorem dX5_deedTo_17 : decode cX5_deedTo 17 = .ok (.if_icmp .lt 5, 3) := by decide +kernel
theorem dX5_deedTo_20 : decode cX5_deedTo 20 = .ok (.iconst (-1), 1) := by decide +kernel
theorem dX5_deedTo_21 : decode cX5_deedTo 21 = .ok (.ireturn, 1) := by decide +kernel
theorem dX5_deedTo_22 : decode cX5_deedTo 22 = .ok (.aload_n 0, 1) := by decide +kernel
theorem dX5_deedTo_23 : decode cX5_deedTo 23 = .ok (.iload_n 3, 1) := by decide +kernel
theorem dX5_deedTo_24 : decode cX5_deedTo 24 = .ok (.invokevirtual 74, 3) := by decide +kernel
theorem dX5_deedTo_27 : decode cX5_deedTo 27 = .ok (.iconst 1, 1) := by decide +kernel
theorem dX5_deedTo_28 : decode cX5_deedTo 28 = .ok (.isub, 1) := by decide +kernel
theorem dX5_deedTo_29 : decode cX5_deedTo 29 = .ok (.istore 4, 2) := by decide +kernel
theorem dX5_deedTo_31 : decode cX5_deedTo 31 = .ok (.iload 4, 2) := by decide +kernel
theorem dX5_deedTo_33 : decode cX5_deedTo 33 = .ok (.iload_n 2, 1) := by decide +kernel
theorem dX5_deedTo_34 : decode cX5_deedTo 34 = .ok (.if_icmp .le 15, 3) := by decide +kernel
theorem dX5_deedTo_37 : decode cX5_deedTo 37 = .ok (.aload_n 0, 1) := by decide +kernel
theorem dX5_deedTo_38 : decode cX5_deedTo 38 = .ok (.iload_n 3, 1) := by decide +kernel
theorem dX5_deedTo_39 : decode cX5_deedTo 39 = .ok (.invokevirtual 96, 3) := by decide +kernel
theorem dX5_deedTo_42 : decode cX5_deedTo 42 = .ok (.istore_n 3, 1) := by decide +kernel
theorem dX5_deedTo_43 : decode cX5_deedTo 43 = .ok (.iinc 4 (-1), 3) := by decide +kernel
theorem dX5_deedTo_46 : decode cX5_deedTo 46 = .ok (.goto (-15), 3) := by decide +kernel
theorem dX5_deedTo_49 : decode cX5_deedTo 49 = .ok (.aload_n 0, 1) := by decide +kernel
theorem dX5_deedTo_50 : decode cX5_deedTo 50 = .ok (.iload_n 3, 1) := by decide +kernel
theorem dX5_deedTo_51 : decode cX5_deedTo 51 = .ok (.invokevirtual 99, 3) := by decide +kernel
theorem dX5_deedTo_54 : decode cX5_deedTo 54 = .ok (.ireturn, 1) := by decide +kernel
theorem dX4_isDeed_0 : decode cX4_isDeed 0 = .ok (.iload_n 1, 1) := by decide +kernel
theorem dX4_isDeed_1 : decode cX4_isDeed 1 = .ok (.ifCond .lt 21, 3) := by decide +kernel
theorem dX4_isDeed_4 : decode cX4_isDeed 4 = .ok (.iload_n 1, 1) := by decide +kernel
theorem dX4_isDeed_5 : decode cX4_isDeed 5 = .ok (.aload_n 0, 1) := by decide +kernel
theorem dX4_isDeed_6 : decode cX4_isDeed 6 = .ok (.getfield 137, 3) := by decide +kernel
theorem dX4_isDeed_9 : decode cX4_isDeed 9 = .ok (.if_icmp .ge 13, 3) := by decide +kernel
theorem dX4_isDeed_12 : decode cX4_isDeed 12 = .ok (.iload_n 1, 1) := by decide +kernel
theorem dX4_isDeed_13 : decode cX4_isDeed 13 = .ok (.bipush 19, 2) := by decide +kernel
theorem dX4_isDeed_15 : decode cX4_isDeed 15 = .ok (.if_icmp .ge 7, 3) := by decide +kernel
theorem dX4_isDeed_18 : decode cX4_isDeed 18 = .ok (.iconst 1, 1) := by decide +kernel
theorem dX4_isDeed_19 : decode cX4_isDeed 19 = .ok (.goto 4, 3) := by decide +kernel
theorem dX4_isDeed_22 : decode cX4_isDeed 22 = .ok (.iconst 0, 1) := by decide +kernel
theorem dX4_isDeed_23 : decode cX4_isDeed 23 = .ok (.ireturn, 1) := by decide +kernel
theorem dX4_doerOf_0 : decode cX4_doerOf 0 = .ok (.aload_n 0, 1) := by decide +kernel
theorem dX4_doerOf_1 : decode cX4_doerOf 1 = .ok (.iload_n 1, 1) := by decide +kernel
theorem dX4_doerOf_2 : decode cX4_doerOf 2 = .ok (.invokevirtual 150, 3) := by decide +kernel
theorem dX4_doerOf_5 : decode cX4_doerOf 5 = .ok (.ifCond .eq 12, 3) := by decide +kernel
theorem dX4_doerOf_8 : decode cX4_doerOf 8 = .ok (.aload_n 0, 1) := by decide +kernel
theorem dX4_doerOf_9 : decode cX4_doerOf 9 = .ok (.getfield 37, 3) := by decide +kernel
theorem dX4_doerOf_12 : decode cX4_doerOf 12 = .ok (.iload_n 1, 1) := by decide +kernel
theorem dX4_doerOf_13 : decode cX4_doerOf 13 = .ok (.iaload, 1) := by decide +kernel
theorem dX4_doerOf_14 : decode cX4_doerOf 14 = .ok (.goto 4, 3) := by decide +kernel
theorem dX4_doerOf_17 : decode cX4_doerOf 17 = .ok (.iconst (-1), 1) := by decide +kernel
theorem dX4_doerOf_18 : decode cX4_doerOf 18 = .ok (.ireturn, 1) := by decide +kernel
theorem dX4_sortOf_0 : decode cX4_sortOf 0 = .ok (.aload_n 0, 1) := by decide +kernel
theorem dX4_sortOf_1 : decode cX4_sortOf 1 = .ok (.iload_n 1, 1) := by decide +kernel
theorem dX4_sortOf_2 : decode cX4_sortOf 2 = .ok (.invokevirtual 150, 3) := by decide +kernel
theorem dX4_sortOf_5 : decode cX4_sortOf 5 = .ok (.ifCond .eq 12, 3) := by decide +kernel
theorem dX4_sortOf_8 : decode cX4_sortOf 8 = .ok (.aload_n 0, 1) := by decide +kernel
theorem dX4_sortOf_9 : decode cX4_sortOf 9 = .ok (.getfield 40, 3) := by decide +kernel
theorem dX4_sortOf_12 : decode cX4_sortOf 12 = .ok (.iload_n 1, 1) := by decide +kernel
theorem dX4_sortOf_13 : decode cX4_sortOf 13 = .ok (.iaload, 1) := by decide +kernel
theorem dX4_sortOf_14 : decode cX4_sortOf 14 = .ok (.goto 4, 3) := by decide +kernel
theorem dX4_sortOf_17 : decode cX4_sortOf 17 = .ok (.iconst (-1), 1) := by decide +kernel
theorem dX4_sortOf_18 : decode cX4_sortOf 18 = .ok (.ireturn, 1) := by decide +kernel
theorem dX4_whichOf_0 : decode cX4_whichOf 0 = .ok (.aload_n 0, 1) := by decide +kernel
theorem dX4_whichOf_1 : decode cX4_whichOf 1 = .ok (.iload_n 1, 1) := by decide +kernel
theorem dX4_whichOf_2 : decode cX4_whichOf 2 = .ok (.invokevirtual 150, 3) := by decide +kernel
theorem dX4_whichOf_5 : decode cX4_whichOf 5 = .ok (.ifCond .eq 12, 3) := by decide +kernel
theorem dX4_whichOf_8 : decode cX4_whichOf 8 = .ok (.aload_n 0, 1) := by decide +kernel
theorem dX4_whichOf_9 : decode cX4_whichOf 9 = .ok (.getfield 43, 3) := by decide +kernel
theorem dX4_whichOf_12 : decode cX4_whichOf 12 = .ok (.iload_n 1, 1) := by decide +kernel
theorem dX4_whichOf_13 : decode cX4_whichOf 13 = .ok (.iaload, 1) := by decide +kernel
theorem dX4_whichOf_14 : decode cX4_whichOf 14 = .ok (.goto 4, 3) := by decide +kernel
theorem dX4_whichOf_17 : decode cX4_whichOf 17 = .ok (.iconst (-1), 1) := by decide +kernel
theorem dX4_whichOf_18 : decode cX4_whichOf 18 = .ok (.ireturn, 1) := by decide +kernel
theorem dX10_way_0 : decode cX10_way 0 = .ok (.aload_n 0, 1) := by decide +kernel
theorem dX10_way_1 : decode cX10_way 1 = .ok (.getfield 21, 3) := by decide +kernel
theorem dX10_way_4 : decode cX10_way 4 = .ok (.iload_n 1, 1) := by decide +kernel
theorem dX10_way_5 : decode cX10_way 5 = .ok (.invokevirtual 227, 3) := by decide +kernel
theorem dX10_way_8 : decode cX10_way 8 = .ok (.ifCond .ne 6, 3) := by decide +kernel
theorem dX10_way_11 : decode cX10_way 11 = .ok (.bipush (-2), 2) := by decide +kernel
theorem dX10_way_13 : decode cX10_way 13 = .ok (.ireturn, 1) := by decide +kernel
theorem dX10_way_14 : decode cX10_way 14 = .ok (.iload_n 2, 1) := by decide +kernel
theorem dX10_way_15 : decode cX10_way 15 = .ok (.ifCond .lt 12, 3) := by decide +kernel
theorem dX10_way_18 : decode cX10_way 18 = .ok (.iload_n 3, 1) := by decide +kernel
theorem dX10_way_19 : decode cX10_way 19 = .ok (.ifCond .lt 8, 3) := by decide +kernel
theorem dX10_way_22 : decode cX10_way 22 = .ok (.iload_n 3, 1) := by decide +kernel
theorem dX10_way_23 : decode cX10_way 23 = .ok (.iconst 2, 1) := by decide +kernel
theorem dX10_way_24 : decode cX10_way 24 = .ok (.if_icmp .le 6, 3) := by decide +kernel
theorem dX10_way_27 : decode cX10_way 27 = .ok (.bipush (-3), 2) := by decide +kernel
theorem dX10_way_29 : decode cX10_way 29 = .ok (.ireturn, 1) := by decide +kernel
theorem dX10_way_30 : decode cX10_way 30 = .ok (.aload_n 0, 1) := by decide +kernel
theorem dX10_way_31 : decode cX10_way 31 = .ok (.invokevirtual 230, 3) := by decide +kernel
theorem dX10_way_34 : decode cX10_way 34 = .ok (.iload_n 1, 1) := by decide +kernel
theorem dX10_way_35 : decode cX10_way 35 = .ok (.iload_n 2, 1) := by decide +kernel
theorem dX10_way_36 : decode cX10_way 36 = .ok (.invokevirtual 243, 3) := by decide +kernel
theorem dX10_way_39 : decode cX10_way 39 = .ok (.istore 4, 2) := by decide +kernel
theorem dX10_way_41 : decode cX10_way 41 = .ok (.iload 4, 2) := by decide +kernel
theorem dX10_way_43 : decode cX10_way 43 = .ok (.iconst (-1), 1) := by decide +kernel
theorem dX10_way_44 : decode cX10_way 44 = .ok (.if_icmp .ne 5, 3) := by decide +kernel
theorem dX10_way_47 : decode cX10_way 47 = .ok (.iconst (-1), 1) := by decide +kernel
theorem dX10_way_48 : decode cX10_way 48 = .ok (.ireturn, 1) := by decide +kernel
theorem dX10_way_49 : decode cX10_way 49 = .ok (.iload_n 3, 1) := by decide +kernel
theorem dX10_way_50 : decode cX10_way 50 = .ok (.ifCond .ne 13, 3) := by decide +kernel
theorem dX10_way_53 : decode cX10_way 53 = .ok (.aload_n 0, 1) := by decide +kernel
theorem dX10_way_54 : decode cX10_way 54 = .ok (.getfield 37, 3) := by decide +kernel
theorem dX10_way_57 : decode cX10_way 57 = .ok (.iload 4, 2) := by decide +kernel
theorem dX10_way_59 : decode cX10_way 59 = .ok (.invokevirtual 246, 3) := by decide +kernel
theorem dX10_way_62 : decode cX10_way 62 = .ok (.ireturn, 1) := by decide +kernel
theorem dX10_way_63 : decode cX10_way 63 = .ok (.iload_n 3, 1) := by decide +kernel
theorem dX10_way_64 : decode cX10_way 64 = .ok (.iconst 1, 1) := by decide +kernel
theorem dX10_way_65 : decode cX10_way 65 = .ok (.if_icmp .ne 15, 3) := by decide +kernel
theorem dX10_way_68 : decode cX10_way 68 = .ok (.aload_n 0, 1) := by decide +kernel
theorem dX10_way_69 : decode cX10_way 69 = .ok (.getfield 37, 3) := by decide +kernel
theorem dX10_way_72 : decode cX10_way 72 = .ok (.iload 4, 2) := by decide +kernel
theorem dX10_way_74 : decode cX10_way 74 = .ok (.invokevirtual 249, 3) := by decide +kernel
theorem dX10_way_77 : decode cX10_way 77 = .ok (.goto 12, 3) := by decide +kernel
theorem dX10_way_80 : decode cX10_way 80 = .ok (.aload_n 0, 1) := by decide +kernel
theorem dX10_way_81 : decode cX10_way 81 = .ok (.getfield 37, 3) := by decide +kernel
theorem dX10_way_84 : decode cX10_way 84 = .ok (.iload 4, 2) := by decide +kernel
theorem dX10_way_86 : decode cX10_way 86 = .ok (.invokevirtual 251, 3) := by decide +kernel
theorem dX10_way_89 : decode cX10_way 89 = .ok (.ireturn, 1) := by decide +kernel
theorem dX10_fewestHelpers_0 : decode cX10_fewestHelpers 0 = .ok (.aload_n 0, 1) := by decide +kernel
theorem dX10_fewestHelpers_1 : decode cX10_fewestHelpers 1 = .ok (.invokevirtual 230, 3) := by decide +kernel
theorem dX10_fewestHelpers_4 : decode cX10_fewestHelpers 4 = .ok (.iload_n 1, 1) := by decide +kernel
theorem dX10_fewestHelpers_5 : decode cX10_fewestHelpers 5 = .ok (.invokevirtual 233, 3) := by decide +kernel
theorem dX10_fewestHelpers_8 : decode cX10_fewestHelpers 8 = .ok (.iconst (-1), 1) := by decide +kernel
theorem dX10_fewestHelpers_9 : decode cX10_fewestHelpers 9 = .ok (.if_icmp .ne 5, 3) := by decide +kernel
theorem dX10_fewestHelpers_12 : decode cX10_fewestHelpers 12 = .ok (.iconst (-1), 1) := by decide +kernel
theorem dX10_fewestHelpers_13 : decode cX10_fewestHelpers 13 = .ok (.ireturn, 1) := by decide +kernel
theorem dX10_fewestHelpers_14 : decode cX10_fewestHelpers 14 = .ok (.aload_n 0, 1) := by decide +kernel
theorem dX10_fewestHelpers_15 : decode cX10_fewestHelpers 15 = .ok (.getfield 21, 3) := by decide +kernel
theorem dX10_fewestHelpers_18 : decode cX10_fewestHelpers 18 = .ok (.invokevirtual 236, 3) := by decide +kernel
theorem dX10_fewestHelpers_21 : decode cX10_fewestHelpers 21 = .ok (.istore_n 2, 1) := by decide +kernel
theorem dX10_fewestHelpers_22 : decode cX10_fewestHelpers 22 = .ok (.iconst 0, 1) := by decide +kernel
theorem dX10_fewestHelpers_23 : decode cX10_fewestHelpers 23 = .ok (.istore_n 3, 1) := by decide +kernel
theorem dX10_fewestHelpers_24 : decode cX10_fewestHelpers 24 = .ok (.iload_n 3, 1) := by decide +kernel
theorem dX10_fewestHelpers_25 : decode cX10_fewestHelpers 25 = .ok (.iconst 3, 1) := by decide +kernel
theorem dX10_fewestHelpers_26 : decode cX10_fewestHelpers 26 = .ok (.if_icmp .ge 55, 3) := by decide +kernel
theorem dX10_fewestHelpers_29 : decode cX10_fewestHelpers 29 = .ok (.iconst 0, 1) := by decide +kernel
theorem dX10_fewestHelpers_30 : decode cX10_fewestHelpers 30 = .ok (.istore 4, 2) := by decide +kernel
theorem dX10_fewestHelpers_32 : decode cX10_fewestHelpers 32 = .ok (.iload 4, 2) := by decide +kernel
theorem dX10_fewestHelpers_34 : decode cX10_fewestHelpers 34 = .ok (.iload_n 2, 1) := by decide +kernel
theorem dX10_fewestHelpers_35 : decode cX10_fewestHelpers 35 = .ok (.if_icmp .ge 40, 3) := by decide +kernel
theorem dX10_fewestHelpers_38 : decode cX10_fewestHelpers 38 = .ok (.iload 4, 2) := by decide +kernel
theorem dX10_fewestHelpers_40 : decode cX10_fewestHelpers 40 = .ok (.invokestatic 257, 3) := by decide +kernel
theorem dX10_fewestHelpers_43 : decode cX10_fewestHelpers 43 = .ok (.iload_n 3, 1) := by decide +kernel
theorem dX10_fewestHelpers_44 : decode cX10_fewestHelpers 44 = .ok (.if_icmp .ne 25, 3) := by decide +kernel
theorem dX10_fewestHelpers_47 : decode cX10_fewestHelpers 47 = .ok (.aload_n 0, 1) := by decide +kernel
theorem dX10_fewestHelpers_48 : decode cX10_fewestHelpers 48 = .ok (.aload_n 0, 1) := by decide +kernel
theorem dX10_fewestHelpers_49 : decode cX10_fewestHelpers 49 = .ok (.getfield 114, 3) := by decide +kernel
theorem dX10_fewestHelpers_52 : decode cX10_fewestHelpers 52 = .ok (.iload 4, 2) := by decide +kernel
theorem dX10_fewestHelpers_54 : decode cX10_fewestHelpers 54 = .ok (.iconst 0, 1) := by decide +kernel
theorem dX10_fewestHelpers_55 : decode cX10_fewestHelpers 55 = .ok (.invokevirtual 262, 3) := by decide +kernel
theorem dX10_fewestHelpers_58 : decode cX10_fewestHelpers 58 = .ok (.iload_n 1, 1) := by decide +kernel
theorem dX10_fewestHelpers_59 : decode cX10_fewestHelpers 59 = .ok (.invokevirtual 233, 3) := by decide +kernel
theorem dX10_fewestHelpers_62 : decode cX10_fewestHelpers 62 = .ok (.iconst (-1), 1) := by decide +kernel
theorem dX10_fewestHelpers_63 : decode cX10_fewestHelpers 63 = .ok (.if_icmp .eq 6, 3) := by decide +kernel
theorem dX10_fewestHelpers_66 : decode cX10_fewestHelpers 66 = .ok (.iload 4, 2) := by decide +kernel
theorem dX10_fewestHelpers_68 : decode cX10_fewestHelpers 68 = .ok (.ireturn, 1) := by decide +kernel
theorem dX10_fewestHelpers_69 : decode cX10_fewestHelpers 69 = .ok (.iinc 4 1, 3) := by decide +kernel
theorem dX10_fewestHelpers_72 : decode cX10_fewestHelpers 72 = .ok (.goto (-40), 3) := by decide +kernel
theorem dX10_fewestHelpers_75 : decode cX10_fewestHelpers 75 = .ok (.iinc 3 1, 3) := by decide +kernel
theorem dX10_fewestHelpers_78 : decode cX10_fewestHelpers 78 = .ok (.goto (-54), 3) := by decide +kernel
theorem dX10_fewestHelpers_81 : decode cX10_fewestHelpers 81 = .ok (.iload_n 2, 1) := by decide +kernel
theorem dX10_fewestHelpers_82 : decode cX10_fewestHelpers 82 = .ok (.ireturn, 1) := by decide +kernel
theorem dX10_helpers_0 : decode cX10_helpers 0 = .ok (.aload_n 0, 1) := by decide +kernel
theorem dX10_helpers_1 : decode cX10_helpers 1 = .ok (.getfield 21, 3) := by decide +kernel
theorem dX10_helpers_4 : decode cX10_helpers 4 = .ok (.iload_n 1, 1) := by decide +kernel
theorem dX10_helpers_5 : decode cX10_helpers 5 = .ok (.invokevirtual 227, 3) := by decide +kernel
theorem dX10_helpers_8 : decode cX10_helpers 8 = .ok (.ifCond .ne 6, 3) := by decide +kernel
theorem dX10_helpers_11 : decode cX10_helpers 11 = .ok (.bipush (-2), 2) := by decide +kernel
theorem dX10_helpers_13 : decode cX10_helpers 13 = .ok (.ireturn, 1) := by decide +kernel
theorem dX10_helpers_14 : decode cX10_helpers 14 = .ok (.iload_n 2, 1) := by decide +kernel
theorem dX10_helpers_15 : decode cX10_helpers 15 = .ok (.ifCond .lt 8, 3) := by decide +kernel
theorem dX10_helpers_18 : decode cX10_helpers 18 = .ok (.iload_n 2, 1) := by decide +kernel
theorem dX10_helpers_19 : decode cX10_helpers 19 = .ok (.iconst 1, 1) := by decide +kernel
theorem dX10_helpers_20 : decode cX10_helpers 20 = .ok (.if_icmp .le 6, 3) := by decide +kernel
theorem dX10_helpers_23 : decode cX10_helpers 23 = .ok (.bipush (-3), 2) := by decide +kernel
theorem dX10_helpers_25 : decode cX10_helpers 25 = .ok (.ireturn, 1) := by decide +kernel
theorem dX10_helpers_26 : decode cX10_helpers 26 = .ok (.aload_n 0, 1) := by decide +kernel
theorem dX10_helpers_27 : decode cX10_helpers 27 = .ok (.iload_n 1, 1) := by decide +kernel
theorem dX10_helpers_28 : decode cX10_helpers 28 = .ok (.invokevirtual 254, 3) := by decide +kernel
theorem dX10_helpers_31 : decode cX10_helpers 31 = .ok (.istore_n 3, 1) := by decide +kernel
theorem dX10_helpers_32 : decode cX10_helpers 32 = .ok (.iload_n 3, 1) := by decide +kernel
theorem dX10_helpers_33 : decode cX10_helpers 33 = .ok (.iconst (-1), 1) := by decide +kernel
theorem dX10_helpers_34 : decode cX10_helpers 34 = .ok (.if_icmp .eq 8, 3) := by decide +kernel
theorem dX10_helpers_37 : decode cX10_helpers 37 = .ok (.iload_n 2, 1) := by decide +kernel
theorem dX10_helpers_38 : decode cX10_helpers 38 = .ok (.iconst 1, 1) := by decide +kernel
theorem dX10_helpers_39 : decode cX10_helpers 39 = .ok (.if_icmp .ne 7, 3) := by decide +kernel
theorem dX10_helpers_42 : decode cX10_helpers 42 = .ok (.iload_n 3, 1) := by decide +kernel
theorem dX10_helpers_43 : decode cX10_helpers 43 = .ok (.goto 7, 3) := by decide +kernel
theorem dX10_helpers_46 : decode cX10_helpers 46 = .ok (.iload_n 3, 1) := by decide +kernel
theorem dX10_helpers_47 : decode cX10_helpers 47 = .ok (.invokestatic 257, 3) := by decide +kernel
theorem dX10_helpers_50 : decode cX10_helpers 50 = .ok (.ireturn, 1) := by decide +kernel
theorem dX5_fewestNightsWithout_0 : decode cX5_fewestNightsWithout 0 = .ok (.aload_n 0, 1) := by decide +kernel
theorem dX5_fewestNightsWithout_1 : decode cX5_fewestNightsWithout 1 = .ok (.iload_n 1, 1) := by decide +kernel
theorem dX5_fewestNightsWithout_2 : decode cX5_fewestNightsWithout 2 = .ok (.iload_n 2, 1) := by decide +kernel
theorem dX5_fewestNightsWithout_3 : decode cX5_fewestNightsWithout 3 = .ok (.iconst 0, 1) := by decide +kernel
theorem dX5_fewestNightsWithout_4 : decode cX5_fewestNightsWithout 4 = .ok (.invokevirtual 34, 3) := by decide +kernel
theorem dX5_fewestNightsWithout_7 : decode cX5_fewestNightsWithout 7 = .ok (.aload_n 0, 1) := by decide +kernel
theorem dX5_fewestNightsWithout_8 : decode cX5_fewestNightsWithout 8 = .ok (.invokevirtual 102, 3) := by decide +kernel
theorem dX5_fewestNightsWithout_11 : decode cX5_fewestNightsWithout 11 = .ok (.iconst 0, 1) := by decide +kernel
theorem dX5_fewestNightsWithout_12 : decode cX5_fewestNightsWithout 12 = .ok (.istore 4, 2) := by decide +kernel
theorem dX5_fewestNightsWithout_14 : decode cX5_fewestNightsWithout 14 = .ok (.iconst 0, 1) := by decide +kernel
theorem dX5_fewestNightsWithout_15 : decode cX5_fewestNightsWithout 15 = .ok (.istore 5, 2) := by decide +kernel
theorem dX5_fewestNightsWithout_17 : decode cX5_fewestNightsWithout 17 = .ok (.iload 5, 2) := by decide +kernel
theorem dX5_fewestNightsWithout_19 : decode cX5_fewestNightsWithout 19 = .ok (.ldc 86, 2) := by decide +kernel
theorem dX5_fewestNightsWithout_21 : decode cX5_fewestNightsWithout 21 = .ok (.if_icmp .ge 128, 3) := by decide +kernel
theorem dX5_fewestNightsWithout_24 : decode cX5_fewestNightsWithout 24 = .ok (.iload 4, 2) := by decide +kernel
theorem dX5_fewestNightsWithout_26 : decode cX5_fewestNightsWithout 26 = .ok (.aload_n 0, 1) := by decide +kernel
theorem dX5_fewestNightsWithout_27 : decode cX5_fewestNightsWithout 27 = .ok (.getfield 50, 3) := by decide +kernel
theorem dX5_fewestNightsWithout_30 : decode cX5_fewestNightsWithout 30 = .ok (.if_icmp .ge 119, 3) := by decide +kernel
theorem dX5_fewestNightsWithout_33 : decode cX5_fewestNightsWithout 33 = .ok (.iload 4, 2) := by decide +kernel
theorem dX5_fewestNightsWithout_35 : decode cX5_fewestNightsWithout 35 = .ok (.istore 6, 2) := by decide +kernel
theorem dX5_fewestNightsWithout_37 : decode cX5_fewestNightsWithout 37 = .ok (.iload 6, 2) := by decide +kernel
theorem dX5_fewestNightsWithout_39 : decode cX5_fewestNightsWithout 39 = .ok (.aload_n 0, 1) := by decide +kernel
theorem dX5_fewestNightsWithout_40 : decode cX5_fewestNightsWithout 40 = .ok (.getfield 50, 3) := by decide +kernel
theorem dX5_fewestNightsWithout_43 : decode cX5_fewestNightsWithout 43 = .ok (.if_icmp .ge 46, 3) := by decide +kernel
theorem dX5_fewestNightsWithout_46 : decode cX5_fewestNightsWithout 46 = .ok (.iload 6, 2) := by decide +kernel
theorem dX5_fewestNightsWithout_48 : decode cX5_fewestNightsWithout 48 = .ok (.ldc 86, 2) := by decide +kernel
theorem dX5_fewestNightsWithout_50 : decode cX5_fewestNightsWithout 50 = .ok (.if_icmp .ge 39, 3) := by decide +kernel
theorem dX5_fewestNightsWithout_53 : decode cX5_fewestNightsWithout 53 = .ok (.aload_n 0, 1) := by decide +kernel
theorem dX5_fewestNightsWithout_54 : decode cX5_fewestNightsWithout 54 = .ok (.iload 6, 2) := by decide +kernel
theorem dX5_fewestNightsWithout_56 : decode cX5_fewestNightsWithout 56 = .ok (.invokevirtual 71, 3) := by decide +kernel
theorem dX5_fewestNightsWithout_59 : decode cX5_fewestNightsWithout 59 = .ok (.iload_n 3, 1) := by decide +kernel
theorem dX5_fewestNightsWithout_60 : decode cX5_fewestNightsWithout 60 = .ok (.iand, 1) := by decide +kernel
theorem dX5_fewestNightsWithout_61 : decode cX5_fewestNightsWithout 61 = .ok (.ifCond .ne 6, 3) := by decide +kernel
theorem dX5_fewestNightsWithout_64 : decode cX5_fewestNightsWithout 64 = .ok (.iload 5, 2) := by decide +kernel
theorem dX5_fewestNightsWithout_66 : decode cX5_fewestNightsWithout 66 = .ok (.ireturn, 1) := by decide +kernel
theorem dX5_fewestNightsWithout_67 : decode cX5_fewestNightsWithout 67 = .ok (.aload_n 0, 1) := by decide +kernel
theorem dX5_fewestNightsWithout_68 : decode cX5_fewestNightsWithout 68 = .ok (.iload 6, 2) := by decide +kernel
theorem dX5_fewestNightsWithout_70 : decode cX5_fewestNightsWithout 70 = .ok (.iconst 0, 1) := by decide +kernel
theorem dX5_fewestNightsWithout_71 : decode cX5_fewestNightsWithout 71 = .ok (.aload_n 0, 1) := by decide +kernel
theorem dX5_fewestNightsWithout_72 : decode cX5_fewestNightsWithout 72 = .ok (.getfield 24, 3) := by decide +kernel
theorem dX5_fewestNightsWithout_75 : decode cX5_fewestNightsWithout 75 = .ok (.invokevirtual 87, 3) := by decide +kernel
theorem dX5_fewestNightsWithout_78 : decode cX5_fewestNightsWithout 78 = .ok (.iconst 1, 1) := by decide +kernel
theorem dX5_fewestNightsWithout_79 : decode cX5_fewestNightsWithout 79 = .ok (.isub, 1) := by decide +kernel
theorem dX5_fewestNightsWithout_80 : decode cX5_fewestNightsWithout 80 = .ok (.invokevirtual 90, 3) := by decide +kernel
theorem dX5_fewestNightsWithout_83 : decode cX5_fewestNightsWithout 83 = .ok (.iinc 6 1, 3) := by decide +kernel
theorem dX5_fewestNightsWithout_86 : decode cX5_fewestNightsWithout 86 = .ok (.goto (-49), 3) := by decide +kernel
theorem dX5_fewestNightsWithout_89 : decode cX5_fewestNightsWithout 89 = .ok (.aload_n 0, 1) := by decide +kernel
theorem dX5_fewestNightsWithout_90 : decode cX5_fewestNightsWithout 90 = .ok (.getfield 50, 3) := by decide +kernel
theorem dX5_fewestNightsWithout_93 : decode cX5_fewestNightsWithout 93 = .ok (.istore 6, 2) := by decide +kernel
theorem dX5_fewestNightsWithout_95 : decode cX5_fewestNightsWithout 95 = .ok (.iload 4, 2) := by decide +kernel
theorem dX5_fewestNightsWithout_97 : decode cX5_fewestNightsWithout 97 = .ok (.istore 7, 2) := by decide +kernel
theorem dX5_fewestNightsWithout_99 : decode cX5_fewestNightsWithout 99 = .ok (.iload 7, 2) := by decide +kernel
theorem dX5_fewestNightsWithout_101 : decode cX5_fewestNightsWithout 101 = .ok (.iload 6, 2) := by decide +kernel
theorem dX5_fewestNightsWithout_103 : decode cX5_fewestNightsWithout 103 = .ok (.if_icmp .ge 36, 3) := by decide +kernel
theorem dX5_fewestNightsWithout_106 : decode cX5_fewestNightsWithout 106 = .ok (.iload 7, 2) := by decide +kernel
theorem dX5_fewestNightsWithout_108 : decode cX5_fewestNightsWithout 108 = .ok (.ldc 86, 2) := by decide +kernel
theorem dX5_fewestNightsWithout_110 : decode cX5_fewestNightsWithout 110 = .ok (.if_icmp .ge 29, 3) := by decide +kernel
theorem dX5_fewestNightsWithout_113 : decode cX5_fewestNightsWithout 113 = .ok (.aload_n 0, 1) := by decide +kernel
theorem dX5_fewestNightsWithout_114 : decode cX5_fewestNightsWithout 114 = .ok (.iload 7, 2) := by decide +kernel
theorem dX5_fewestNightsWithout_116 : decode cX5_fewestNightsWithout 116 = .ok (.aload_n 0, 1) := by decide +kernel
theorem dX5_fewestNightsWithout_117 : decode cX5_fewestNightsWithout 117 = .ok (.getfield 24, 3) := by decide +kernel
theorem dX5_fewestNightsWithout_120 : decode cX5_fewestNightsWithout 120 = .ok (.invokevirtual 87, 3) := by decide +kernel
theorem dX5_fewestNightsWithout_123 : decode cX5_fewestNightsWithout 123 = .ok (.aload_n 0, 1) := by decide +kernel
theorem dX5_fewestNightsWithout_124 : decode cX5_fewestNightsWithout 124 = .ok (.getfield 24, 3) := by decide +kernel
theorem dX5_fewestNightsWithout_127 : decode cX5_fewestNightsWithout 127 = .ok (.invokevirtual 87, 3) := by decide +kernel
theorem dX5_fewestNightsWithout_130 : decode cX5_fewestNightsWithout 130 = .ok (.invokevirtual 90, 3) := by decide +kernel
theorem dX5_fewestNightsWithout_133 : decode cX5_fewestNightsWithout 133 = .ok (.iinc 7 1, 3) := by decide +kernel
theorem dX5_fewestNightsWithout_136 : decode cX5_fewestNightsWithout 136 = .ok (.goto (-37), 3) := by decide +kernel
theorem dX5_fewestNightsWithout_139 : decode cX5_fewestNightsWithout 139 = .ok (.iload 6, 2) := by decide +kernel
theorem dX5_fewestNightsWithout_141 : decode cX5_fewestNightsWithout 141 = .ok (.istore 4, 2) := by decide +kernel
theorem dX5_fewestNightsWithout_143 : decode cX5_fewestNightsWithout 143 = .ok (.iinc 5 1, 3) := by decide +kernel
theorem dX5_fewestNightsWithout_146 : decode cX5_fewestNightsWithout 146 = .ok (.goto (-129), 3) := by decide +kernel
theorem dX5_fewestNightsWithout_149 : decode cX5_fewestNightsWithout 149 = .ok (.iconst (-1), 1) := by decide +kernel
theorem dX5_fewestNightsWithout_150 : decode cX5_fewestNightsWithout 150 = .ok (.ireturn, 1) := by decide +kernel
theorem dX10_nights_0 : decode cX10_nights 0 = .ok (.aload_n 0, 1) := by decide +kernel
theorem dX10_nights_1 : decode cX10_nights 1 = .ok (.getfield 21, 3) := by decide +kernel
theorem dX10_nights_4 : decode cX10_nights 4 = .ok (.iload_n 1, 1) := by decide +kernel
theorem dX10_nights_5 : decode cX10_nights 5 = .ok (.invokevirtual 227, 3) := by decide +kernel
theorem dX10_nights_8 : decode cX10_nights 8 = .ok (.ifCond .ne 6, 3) := by decide +kernel
theorem dX10_nights_11 : decode cX10_nights 11 = .ok (.bipush (-2), 2) := by decide +kernel
theorem dX10_nights_13 : decode cX10_nights 13 = .ok (.ireturn, 1) := by decide +kernel
theorem dX10_nights_14 : decode cX10_nights 14 = .ok (.aload_n 0, 1) := by decide +kernel
theorem dX10_nights_15 : decode cX10_nights 15 = .ok (.getfield 50, 3) := by decide +kernel
theorem dX10_nights_18 : decode cX10_nights 18 = .ok (.aload_n 0, 1) := by decide +kernel
theorem dX10_nights_19 : decode cX10_nights 19 = .ok (.getfield 114, 3) := by decide +kernel
theorem dX10_nights_22 : decode cX10_nights 22 = .ok (.aload_n 0, 1) := by decide +kernel
theorem dX10_nights_23 : decode cX10_nights 23 = .ok (.getfield 21, 3) := by decide +kernel
theorem dX10_nights_26 : decode cX10_nights 26 = .ok (.invokevirtual 236, 3) := by decide +kernel
theorem dX10_nights_29 : decode cX10_nights 29 = .ok (.iload_n 1, 1) := by decide +kernel
theorem dX10_nights_30 : decode cX10_nights 30 = .ok (.invokevirtual 265, 3) := by decide +kernel
theorem dX10_nights_33 : decode cX10_nights 33 = .ok (.ireturn, 1) := by decide +kernel
theorem dX6_holding_0 : decode cX6_holding 0 = .ok (.iload_n 0, 1) := by decide +kernel
theorem dX6_holding_1 : decode cX6_holding 1 = .ok (.bipush 31, 2) := by decide +kernel
theorem dX6_holding_3 : decode cX6_holding 3 = .ok (.iand, 1) := by decide +kernel
theorem dX6_holding_4 : decode cX6_holding 4 = .ok (.ireturn, 1) := by decide +kernel
theorem dX5_heldEverywhere_0 : decode cX5_heldEverywhere 0 = .ok (.aload_n 0, 1) := by decide +kernel
theorem dX5_heldEverywhere_1 : decode cX5_heldEverywhere 1 = .ok (.getfield 20, 3) := by decide +kernel
theorem dX5_heldEverywhere_4 : decode cX5_heldEverywhere 4 = .ok (.invokestatic 105, 3) := by decide +kernel
theorem dX5_heldEverywhere_7 : decode cX5_heldEverywhere 7 = .ok (.istore_n 1, 1) := by decide +kernel
theorem dX5_heldEverywhere_8 : decode cX5_heldEverywhere 8 = .ok (.iconst 0, 1) := by decide +kernel
theorem dX5_heldEverywhere_9 : decode cX5_heldEverywhere 9 = .ok (.istore_n 2, 1) := by decide +kernel
theorem dX5_heldEverywhere_10 : decode cX5_heldEverywhere 10 = .ok (.iload_n 2, 1) := by decide +kernel
theorem dX5_heldEverywhere_11 : decode cX5_heldEverywhere 11 = .ok (.aload_n 0, 1) := by decide +kernel
theorem dX5_heldEverywhere_12 : decode cX5_heldEverywhere 12 = .ok (.getfield 50, 3) := by decide +kernel
theorem dX5_heldEverywhere_15 : decode cX5_heldEverywhere 15 = .ok (.if_icmp .ge 48, 3) := by decide +kernel
theorem dX5_heldEverywhere_18 : decode cX5_heldEverywhere 18 = .ok (.iload_n 2, 1) := by decide +kernel
theorem dX5_heldEverywhere_19 : decode cX5_heldEverywhere 19 = .ok (.ldc 86, 2) := by decide +kernel
theorem dX5_heldEverywhere_21 : decode cX5_heldEverywhere 21 = .ok (.if_icmp .ge 42, 3) := by decide +kernel
theorem dX5_heldEverywhere_24 : decode cX5_heldEverywhere 24 = .ok (.iload_n 1, 1) := by decide +kernel
theorem dX5_heldEverywhere_25 : decode cX5_heldEverywhere 25 = .ok (.ifCond .eq 38, 3) := by decide +kernel
theorem dX5_heldEverywhere_28 : decode cX5_heldEverywhere 28 = .ok (.iload_n 1, 1) := by decide +kernel
theorem dX5_heldEverywhere_29 : decode cX5_heldEverywhere 29 = .ok (.aload_n 0, 1) := by decide +kernel
theorem dX5_heldEverywhere_30 : decode cX5_heldEverywhere 30 = .ok (.iload_n 2, 1) := by decide +kernel
theorem dX5_heldEverywhere_31 : decode cX5_heldEverywhere 31 = .ok (.invokevirtual 71, 3) := by decide +kernel
theorem dX5_heldEverywhere_34 : decode cX5_heldEverywhere 34 = .ok (.iand, 1) := by decide +kernel
theorem dX5_heldEverywhere_35 : decode cX5_heldEverywhere 35 = .ok (.istore_n 1, 1) := by decide +kernel
theorem dX5_heldEverywhere_36 : decode cX5_heldEverywhere 36 = .ok (.iload_n 2, 1) := by decide +kernel
theorem dX5_heldEverywhere_37 : decode cX5_heldEverywhere 37 = .ok (.aload_n 0, 1) := by decide +kernel
theorem dX5_heldEverywhere_38 : decode cX5_heldEverywhere 38 = .ok (.getfield 53, 3) := by decide +kernel
theorem dX5_heldEverywhere_41 : decode cX5_heldEverywhere 41 = .ok (.if_icmp .lt 16, 3) := by decide +kernel
theorem dX5_heldEverywhere_44 : decode cX5_heldEverywhere 44 = .ok (.aload_n 0, 1) := by decide +kernel
theorem dX5_heldEverywhere_45 : decode cX5_heldEverywhere 45 = .ok (.iload_n 2, 1) := by decide +kernel
theorem dX5_heldEverywhere_46 : decode cX5_heldEverywhere 46 = .ok (.iconst 0, 1) := by decide +kernel
theorem dX5_heldEverywhere_47 : decode cX5_heldEverywhere 47 = .ok (.aload_n 0, 1) := by decide +kernel
theorem dX5_heldEverywhere_48 : decode cX5_heldEverywhere 48 = .ok (.getfield 24, 3) := by decide +kernel
theorem dX5_heldEverywhere_51 : decode cX5_heldEverywhere 51 = .ok (.invokevirtual 87, 3) := by decide +kernel
theorem dX5_heldEverywhere_54 : decode cX5_heldEverywhere 54 = .ok (.invokevirtual 90, 3) := by decide +kernel
theorem dX5_heldEverywhere_57 : decode cX5_heldEverywhere 57 = .ok (.iinc 2 1, 3) := by decide +kernel
theorem dX5_heldEverywhere_60 : decode cX5_heldEverywhere 60 = .ok (.goto (-50), 3) := by decide +kernel
theorem dX5_heldEverywhere_63 : decode cX5_heldEverywhere 63 = .ok (.iload_n 1, 1) := by decide +kernel
theorem dX5_heldEverywhere_64 : decode cX5_heldEverywhere 64 = .ok (.ireturn, 1) := by decide +kernel
theorem dX10_never_0 : decode cX10_never 0 = .ok (.aload_n 0, 1) := by decide +kernel
theorem dX10_never_1 : decode cX10_never 1 = .ok (.invokevirtual 230, 3) := by decide +kernel
theorem dX10_never_4 : decode cX10_never 4 = .ok (.invokevirtual 268, 3) := by decide +kernel
theorem dX10_never_7 : decode cX10_never 7 = .ok (.ireturn, 1) := by decide +kernel
theorem dX10_ahead_0 : decode cX10_ahead 0 = .ok (.aload_n 0, 1) := by decide +kernel
theorem dX10_ahead_1 : decode cX10_ahead 1 = .ok (.getfield 21, 3) := by decide +kernel
theorem dX10_ahead_4 : decode cX10_ahead 4 = .ok (.iload_n 1, 1) := by decide +kernel
theorem dX10_ahead_5 : decode cX10_ahead 5 = .ok (.invokevirtual 145, 3) := by decide +kernel
theorem dX10_ahead_8 : decode cX10_ahead 8 = .ok (.ifCond .ne 6, 3) := by decide +kernel
theorem dX10_ahead_11 : decode cX10_ahead 11 = .ok (.bipush (-2), 2) := by decide +kernel
theorem dX10_ahead_13 : decode cX10_ahead 13 = .ok (.ireturn, 1) := by decide +kernel
theorem dX10_ahead_14 : decode cX10_ahead 14 = .ok (.iconst 1, 1) := by decide +kernel
theorem dX10_ahead_15 : decode cX10_ahead 15 = .ok (.iload_n 1, 1) := by decide +kernel
theorem dX10_ahead_16 : decode cX10_ahead 16 = .ok (.ishl, 1) := by decide +kernel
theorem dX10_ahead_17 : decode cX10_ahead 17 = .ok (.istore_n 2, 1) := by decide +kernel
theorem dX10_ahead_18 : decode cX10_ahead 18 = .ok (.aload_n 0, 1) := by decide +kernel
theorem dX10_ahead_19 : decode cX10_ahead 19 = .ok (.getfield 114, 3) := by decide +kernel
theorem dX10_ahead_22 : decode cX10_ahead 22 = .ok (.iload_n 2, 1) := by decide +kernel
theorem dX10_ahead_23 : decode cX10_ahead 23 = .ok (.iand, 1) := by decide +kernel
theorem dX10_ahead_24 : decode cX10_ahead 24 = .ok (.ifCond .eq 15, 3) := by decide +kernel
theorem dX10_ahead_27 : decode cX10_ahead 27 = .ok (.aload_n 0, 1) := by decide +kernel
theorem dX10_ahead_28 : decode cX10_ahead 28 = .ok (.invokevirtual 230, 3) := by decide +kernel
theorem dX10_ahead_31 : decode cX10_ahead 31 = .ok (.iload_n 2, 1) := by decide +kernel
theorem dX10_ahead_32 : decode cX10_ahead 32 = .ok (.invokevirtual 233, 3) := by decide +kernel
theorem dX10_ahead_35 : decode cX10_ahead 35 = .ok (.iconst (-1), 1) := by decide +kernel
theorem dX10_ahead_36 : decode cX10_ahead 36 = .ok (.if_icmp .ne 6, 3) := by decide +kernel
theorem dX10_ahead_39 : decode cX10_ahead 39 = .ok (.bipush (-4), 2) := by decide +kernel
theorem dX10_ahead_41 : decode cX10_ahead 41 = .ok (.ireturn, 1) := by decide +kernel
theorem dX10_ahead_42 : decode cX10_ahead 42 = .ok (.iconst 0, 1) := by decide +kernel
theorem dX10_ahead_43 : decode cX10_ahead 43 = .ok (.istore_n 3, 1) := by decide +kernel
theorem dX10_ahead_44 : decode cX10_ahead 44 = .ok (.iconst 0, 1) := by decide +kernel
theorem dX10_ahead_45 : decode cX10_ahead 45 = .ok (.istore 4, 2) := by decide +kernel
theorem dX10_ahead_47 : decode cX10_ahead 47 = .ok (.iload 4, 2) := by decide +kernel
theorem dX10_ahead_49 : decode cX10_ahead 49 = .ok (.iconst 5, 1) := by decide +kernel
theorem dX10_ahead_50 : decode cX10_ahead 50 = .ok (.if_icmp .ge 64, 3) := by decide +kernel
theorem dX10_ahead_53 : decode cX10_ahead 53 = .ok (.iconst 1, 1) := by decide +kernel
theorem dX10_ahead_54 : decode cX10_ahead 54 = .ok (.iload 4, 2) := by decide +kernel
theorem dX10_ahead_56 : decode cX10_ahead 56 = .ok (.ishl, 1) := by decide +kernel
theorem dX10_ahead_57 : decode cX10_ahead 57 = .ok (.istore 5, 2) := by decide +kernel
theorem dX10_ahead_59 : decode cX10_ahead 59 = .ok (.iload 4, 2) := by decide +kernel
theorem dX10_ahead_61 : decode cX10_ahead 61 = .ok (.iload_n 1, 1) := by decide +kernel
theorem dX10_ahead_62 : decode cX10_ahead 62 = .ok (.if_icmp .eq 46, 3) := by decide +kernel
theorem dX10_ahead_65 : decode cX10_ahead 65 = .ok (.aload_n 0, 1) := by decide +kernel
theorem dX10_ahead_66 : decode cX10_ahead 66 = .ok (.getfield 114, 3) := by decide +kernel
theorem dX10_ahead_69 : decode cX10_ahead 69 = .ok (.invokestatic 271, 3) := by decide +kernel
theorem dX10_ahead_72 : decode cX10_ahead 72 = .ok (.iload 5, 2) := by decide +kernel
theorem dX10_ahead_74 : decode cX10_ahead 74 = .ok (.iand, 1) := by decide +kernel
theorem dX10_ahead_75 : decode cX10_ahead 75 = .ok (.ifCond .eq 33, 3) := by decide +kernel
theorem dX10_ahead_78 : decode cX10_ahead 78 = .ok (.aload_n 0, 1) := by decide +kernel
theorem dX10_ahead_79 : decode cX10_ahead 79 = .ok (.aload_n 0, 1) := by decide +kernel
theorem dX10_ahead_80 : decode cX10_ahead 80 = .ok (.getfield 114, 3) := by decide +kernel
theorem dX10_ahead_83 : decode cX10_ahead 83 = .ok (.aload_n 0, 1) := by decide +kernel
theorem dX10_ahead_84 : decode cX10_ahead 84 = .ok (.getfield 21, 3) := by decide +kernel
theorem dX10_ahead_87 : decode cX10_ahead 87 = .ok (.invokevirtual 236, 3) := by decide +kernel
theorem dX10_ahead_90 : decode cX10_ahead 90 = .ok (.iload 5, 2) := by decide +kernel
theorem dX10_ahead_92 : decode cX10_ahead 92 = .ok (.invokevirtual 262, 3) := by decide +kernel
theorem dX10_ahead_95 : decode cX10_ahead 95 = .ok (.iload_n 2, 1) := by decide +kernel
theorem dX10_ahead_96 : decode cX10_ahead 96 = .ok (.invokevirtual 233, 3) := by decide +kernel
theorem dX10_ahead_99 : decode cX10_ahead 99 = .ok (.iconst (-1), 1) := by decide +kernel
theorem dX10_ahead_100 : decode cX10_ahead 100 = .ok (.if_icmp .ne 8, 3) := by decide +kernel
theorem dX10_ahead_103 : decode cX10_ahead 103 = .ok (.iload_n 3, 1) := by decide +kernel
theorem dX10_ahead_104 : decode cX10_ahead 104 = .ok (.iload 5, 2) := by decide +kernel
theorem dX10_ahead_106 : decode cX10_ahead 106 = .ok (.ior, 1) := by decide +kernel
theorem dX10_ahead_107 : decode cX10_ahead 107 = .ok (.istore_n 3, 1) := by decide +kernel
theorem dX10_ahead_108 : decode cX10_ahead 108 = .ok (.iinc 4 1, 3) := by decide +kernel
theorem dX10_ahead_111 : decode cX10_ahead 111 = .ok (.goto (-64), 3) := by decide +kernel
theorem dX10_ahead_114 : decode cX10_ahead 114 = .ok (.iload_n 3, 1) := by decide +kernel
theorem dX10_ahead_115 : decode cX10_ahead 115 = .ok (.ireturn, 1) := by decide +kernel
theorem dX10_isPropped_0 : decode cX10_isPropped 0 = .ok (.aload_n 0, 1) := by decide +kernel
theorem dX10_isPropped_1 : decode cX10_isPropped 1 = .ok (.iload_n 1, 1) := by decide +kernel
theorem dX10_isPropped_2 : decode cX10_isPropped 2 = .ok (.invokevirtual 178, 3) := by decide +kernel
theorem dX10_isPropped_5 : decode cX10_isPropped 5 = .ok (.aload_n 0, 1) := by decide +kernel
theorem dX10_isPropped_6 : decode cX10_isPropped 6 = .ok (.getfield 21, 3) := by decide +kernel
theorem dX10_isPropped_9 : decode cX10_isPropped 9 = .ok (.iload_n 1, 1) := by decide +kernel
theorem dX10_isPropped_10 : decode cX10_isPropped 10 = .ok (.invokevirtual 157, 3) := by decide +kernel
theorem dX10_isPropped_13 : decode cX10_isPropped 13 = .ok (.iconst 1, 1) := by decide +kernel
theorem dX10_isPropped_14 : decode cX10_isPropped 14 = .ok (.isub, 1) := by decide +kernel
theorem dX10_isPropped_15 : decode cX10_isPropped 15 = .ok (.if_icmp .eq 5, 3) := by decide +kernel
theorem dX10_isPropped_18 : decode cX10_isPropped 18 = .ok (.iconst 0, 1) := by decide +kernel
theorem dX10_isPropped_19 : decode cX10_isPropped 19 = .ok (.ireturn, 1) := by decide +kernel
theorem dX10_isPropped_20 : decode cX10_isPropped 20 = .ok (.iload_n 2, 1) := by decide +kernel
theorem dX10_isPropped_21 : decode cX10_isPropped 21 = .ok (.iconst 1, 1) := by decide +kernel
theorem dX10_isPropped_22 : decode cX10_isPropped 22 = .ok (.iload_n 1, 1) := by decide +kernel
theorem dX10_isPropped_23 : decode cX10_isPropped 23 = .ok (.ishl, 1) := by decide +kernel
theorem dX10_isPropped_24 : decode cX10_isPropped 24 = .ok (.iconst (-1), 1) := by decide +kernel
theorem dX10_isPropped_25 : decode cX10_isPropped 25 = .ok (.ixor, 1) := by decide +kernel
theorem dX10_isPropped_26 : decode cX10_isPropped 26 = .ok (.iand, 1) := by decide +kernel
theorem dX10_isPropped_27 : decode cX10_isPropped 27 = .ok (.istore_n 3, 1) := by decide +kernel
theorem dX10_isPropped_28 : decode cX10_isPropped 28 = .ok (.iconst 0, 1) := by decide +kernel
theorem dX10_isPropped_29 : decode cX10_isPropped 29 = .ok (.istore 4, 2) := by decide +kernel
theorem dX10_isPropped_31 : decode cX10_isPropped 31 = .ok (.iload 4, 2) := by decide +kernel
theorem dX10_isPropped_33 : decode cX10_isPropped 33 = .ok (.iconst 3, 1) := by decide +kernel
theorem dX10_isPropped_34 : decode cX10_isPropped 34 = .ok (.if_icmp .ge 69, 3) := by decide +kernel
theorem dX10_isPropped_37 : decode cX10_isPropped 37 = .ok (.iload 4, 2) := by decide +kernel
theorem dX10_isPropped_39 : decode cX10_isPropped 39 = .ok (.aload_n 0, 1) := by decide +kernel
theorem dX10_isPropped_40 : decode cX10_isPropped 40 = .ok (.getfield 21, 3) := by decide +kernel
theorem dX10_isPropped_43 : decode cX10_isPropped 43 = .ok (.iload_n 1, 1) := by decide +kernel
theorem dX10_isPropped_44 : decode cX10_isPropped 44 = .ok (.invokevirtual 157, 3) := by decide +kernel
theorem dX10_isPropped_47 : decode cX10_isPropped 47 = .ok (.if_icmp .ge 56, 3) := by decide +kernel
theorem dX10_isPropped_50 : decode cX10_isPropped 50 = .ok (.aload_n 0, 1) := by decide +kernel
theorem dX10_isPropped_51 : decode cX10_isPropped 51 = .ok (.iload_n 1, 1) := by decide +kernel
theorem dX10_isPropped_52 : decode cX10_isPropped 52 = .ok (.iload 4, 2) := by decide +kernel
theorem dX10_isPropped_54 : decode cX10_isPropped 54 = .ok (.invokevirtual 169, 3) := by decide +kernel
theorem dX10_isPropped_57 : decode cX10_isPropped 57 = .ok (.ifCond .ne 40, 3) := by decide +kernel
theorem dX10_isPropped_60 : decode cX10_isPropped 60 = .ok (.aload_n 0, 1) := by decide +kernel
theorem dX10_isPropped_61 : decode cX10_isPropped 61 = .ok (.getfield 21, 3) := by decide +kernel
theorem dX10_isPropped_64 : decode cX10_isPropped 64 = .ok (.iload_n 1, 1) := by decide +kernel
theorem dX10_isPropped_65 : decode cX10_isPropped 65 = .ok (.iload 4, 2) := by decide +kernel
theorem dX10_isPropped_67 : decode cX10_isPropped 67 = .ok (.invokevirtual 163, 3) := by decide +kernel
theorem dX10_isPropped_70 : decode cX10_isPropped 70 = .ok (.iconst 4, 1) := by decide +kernel
theorem dX10_isPropped_71 : decode cX10_isPropped 71 = .ok (.if_icmp .ne 24, 3) := by decide +kernel
theorem dX10_isPropped_74 : decode cX10_isPropped 74 = .ok (.iload_n 3, 1) := by decide +kernel
theorem dX10_isPropped_75 : decode cX10_isPropped 75 = .ok (.aload_n 0, 1) := by decide +kernel
theorem dX10_isPropped_76 : decode cX10_isPropped 76 = .ok (.getfield 21, 3) := by decide +kernel
theorem dX10_isPropped_79 : decode cX10_isPropped 79 = .ok (.iload_n 1, 1) := by decide +kernel
theorem dX10_isPropped_80 : decode cX10_isPropped 80 = .ok (.iload 4, 2) := by decide +kernel
theorem dX10_isPropped_82 : decode cX10_isPropped 82 = .ok (.invokevirtual 166, 3) := by decide +kernel
theorem dX10_isPropped_85 : decode cX10_isPropped 85 = .ok (.ishr, 1) := by decide +kernel
theorem dX10_isPropped_86 : decode cX10_isPropped 86 = .ok (.iconst 1, 1) := by decide +kernel
theorem dX10_isPropped_87 : decode cX10_isPropped 87 = .ok (.iand, 1) := by decide +kernel
theorem dX10_isPropped_88 : decode cX10_isPropped 88 = .ok (.ifCond .eq 7, 3) := by decide +kernel
theorem dX10_isPropped_91 : decode cX10_isPropped 91 = .ok (.iconst 1, 1) := by decide +kernel
theorem dX10_isPropped_92 : decode cX10_isPropped 92 = .ok (.goto 4, 3) := by decide +kernel
theorem dX10_isPropped_95 : decode cX10_isPropped 95 = .ok (.iconst 0, 1) := by decide +kernel
theorem dX10_isPropped_96 : decode cX10_isPropped 96 = .ok (.ireturn, 1) := by decide +kernel
theorem dX10_isPropped_97 : decode cX10_isPropped 97 = .ok (.iinc 4 1, 3) := by decide +kernel
theorem dX10_isPropped_100 : decode cX10_isPropped 100 = .ok (.goto (-69), 3) := by decide +kernel
theorem dX10_isPropped_103 : decode cX10_isPropped 103 = .ok (.iconst 0, 1) := by decide +kernel
theorem dX10_isPropped_104 : decode cX10_isPropped 104 = .ok (.ireturn, 1) := by decide +kernel
theorem dX10_props_0 : decode cX10_props 0 = .ok (.aload_n 0, 1) := by decide +kernel
theorem dX10_props_1 : decode cX10_props 1 = .ok (.invokevirtual 230, 3) := by decide +kernel
theorem dX10_props_4 : decode cX10_props 4 = .ok (.invokevirtual 268, 3) := by decide +kernel
theorem dX10_props_7 : decode cX10_props 7 = .ok (.istore_n 1, 1) := by decide +kernel
theorem dX10_props_8 : decode cX10_props 8 = .ok (.iconst 0, 1) := by decide +kernel
theorem dX10_props_9 : decode cX10_props 9 = .ok (.istore_n 2, 1) := by decide +kernel
theorem dX10_props_10 : decode cX10_props 10 = .ok (.iconst 0, 1) := by decide +kernel
theorem dX10_props_11 : decode cX10_props 11 = .ok (.istore_n 3, 1) := by decide +kernel
theorem dX10_props_12 : decode cX10_props 12 = .ok (.iload_n 3, 1) := by decide +kernel
theorem dX10_props_13 : decode cX10_props 13 = .ok (.iconst 5, 1) := by decide +kernel
theorem dX10_props_14 : decode cX10_props 14 = .ok (.if_icmp .ge 32, 3) := by decide +kernel
theorem dX10_props_17 : decode cX10_props 17 = .ok (.iload_n 1, 1) := by decide +kernel
theorem dX10_props_18 : decode cX10_props 18 = .ok (.iload_n 3, 1) := by decide +kernel
theorem dX10_props_19 : decode cX10_props 19 = .ok (.ishr, 1) := by decide +kernel
theorem dX10_props_20 : decode cX10_props 20 = .ok (.iconst 1, 1) := by decide +kernel
theorem dX10_props_21 : decode cX10_props 21 = .ok (.iand, 1) := by decide +kernel
theorem dX10_props_22 : decode cX10_props 22 = .ok (.ifCond .eq 18, 3) := by decide +kernel
theorem dX10_props_25 : decode cX10_props 25 = .ok (.aload_n 0, 1) := by decide +kernel
theorem dX10_props_26 : decode cX10_props 26 = .ok (.iload_n 3, 1) := by decide +kernel
theorem dX10_props_27 : decode cX10_props 27 = .ok (.iload_n 1, 1) := by decide +kernel
theorem dX10_props_28 : decode cX10_props 28 = .ok (.invokevirtual 274, 3) := by decide +kernel
theorem dX10_props_31 : decode cX10_props 31 = .ok (.ifCond .eq 9, 3) := by decide +kernel
theorem dX10_props_34 : decode cX10_props 34 = .ok (.iload_n 2, 1) := by decide +kernel
theorem dX10_props_35 : decode cX10_props 35 = .ok (.iconst 1, 1) := by decide +kernel
theorem dX10_props_36 : decode cX10_props 36 = .ok (.iload_n 3, 1) := by decide +kernel
theorem dX10_props_37 : decode cX10_props 37 = .ok (.ishl, 1) := by decide +kernel
theorem dX10_props_38 : decode cX10_props 38 = .ok (.ior, 1) := by decide +kernel
theorem dX10_props_39 : decode cX10_props 39 = .ok (.istore_n 2, 1) := by decide +kernel
theorem dX10_props_40 : decode cX10_props 40 = .ok (.iinc 3 1, 3) := by decide +kernel
theorem dX10_props_43 : decode cX10_props 43 = .ok (.goto (-31), 3) := by decide +kernel
theorem dX10_props_46 : decode cX10_props 46 = .ok (.iload_n 2, 1) := by decide +kernel
theorem dX10_props_47 : decode cX10_props 47 = .ok (.ireturn, 1) := by decide +kernel
theorem dX10_gone_0 : decode cX10_gone 0 = .ok (.aload_n 0, 1) := by decide +kernel
theorem dX10_gone_1 : decode cX10_gone 1 = .ok (.getfield 21, 3) := by decide +kernel
theorem dX10_gone_4 : decode cX10_gone 4 = .ok (.iload_n 1, 1) := by decide +kernel
theorem dX10_gone_5 : decode cX10_gone 5 = .ok (.invokevirtual 227, 3) := by decide +kernel
theorem dX10_gone_8 : decode cX10_gone 8 = .ok (.ifCond .ne 6, 3) := by decide +kernel
theorem dX10_gone_11 : decode cX10_gone 11 = .ok (.bipush (-2), 2) := by decide +kernel
theorem dX10_gone_13 : decode cX10_gone 13 = .ok (.ireturn, 1) := by decide +kernel
theorem dX10_gone_14 : decode cX10_gone 14 = .ok (.iload_n 2, 1) := by decide +kernel
theorem dX10_gone_15 : decode cX10_gone 15 = .ok (.ifCond .lt 8, 3) := by decide +kernel
theorem dX10_gone_18 : decode cX10_gone 18 = .ok (.iload_n 2, 1) := by decide +kernel
theorem dX10_gone_19 : decode cX10_gone 19 = .ok (.iconst 1, 1) := by decide +kernel
theorem dX10_gone_20 : decode cX10_gone 20 = .ok (.if_icmp .le 6, 3) := by decide +kernel
theorem dX10_gone_23 : decode cX10_gone 23 = .ok (.bipush (-3), 2) := by decide +kernel
theorem dX10_gone_25 : decode cX10_gone 25 = .ok (.ireturn, 1) := by decide +kernel
theorem dX10_gone_26 : decode cX10_gone 26 = .ok (.iconst (-1), 1) := by decide +kernel
theorem dX10_gone_27 : decode cX10_gone 27 = .ok (.istore_n 3, 1) := by decide +kernel
theorem dX10_gone_28 : decode cX10_gone 28 = .ok (.aload_n 0, 1) := by decide +kernel
theorem dX10_gone_29 : decode cX10_gone 29 = .ok (.invokevirtual 230, 3) := by decide +kernel
theorem dX10_gone_32 : decode cX10_gone 32 = .ok (.iload_n 1, 1) := by decide +kernel
theorem dX10_gone_33 : decode cX10_gone 33 = .ok (.invokevirtual 233, 3) := by decide +kernel
theorem dX10_gone_36 : decode cX10_gone 36 = .ok (.istore 4, 2) := by decide +kernel
theorem dX10_gone_38 : decode cX10_gone 38 = .ok (.iconst 0, 1) := by decide +kernel
theorem dX10_gone_39 : decode cX10_gone 39 = .ok (.istore 5, 2) := by decide +kernel
theorem dX10_gone_41 : decode cX10_gone 41 = .ok (.iload 5, 2) := by decide +kernel
theorem dX10_gone_43 : decode cX10_gone 43 = .ok (.iconst 5, 1) := by decide +kernel
theorem dX10_gone_44 : decode cX10_gone 44 = .ok (.if_icmp .ge 85, 3) := by decide +kernel
theorem dX10_gone_47 : decode cX10_gone 47 = .ok (.iconst 1, 1) := by decide +kernel
theorem dX10_gone_48 : decode cX10_gone 48 = .ok (.iload 5, 2) := by decide +kernel
theorem dX10_gone_50 : decode cX10_gone 50 = .ok (.ishl, 1) := by decide +kernel
theorem dX10_gone_51 : decode cX10_gone 51 = .ok (.istore 6, 2) := by decide +kernel
theorem dX10_gone_53 : decode cX10_gone 53 = .ok (.aload_n 0, 1) := by decide +kernel
theorem dX10_gone_54 : decode cX10_gone 54 = .ok (.getfield 114, 3) := by decide +kernel
theorem dX10_gone_57 : decode cX10_gone 57 = .ok (.invokestatic 271, 3) := by decide +kernel
theorem dX10_gone_60 : decode cX10_gone 60 = .ok (.iload_n 1, 1) := by decide +kernel
theorem dX10_gone_61 : decode cX10_gone 61 = .ok (.iconst (-1), 1) := by decide +kernel
theorem dX10_gone_62 : decode cX10_gone 62 = .ok (.ixor, 1) := by decide +kernel
theorem dX10_gone_63 : decode cX10_gone 63 = .ok (.iand, 1) := by decide +kernel
theorem dX10_gone_64 : decode cX10_gone 64 = .ok (.iload 6, 2) := by decide +kernel
theorem dX10_gone_66 : decode cX10_gone 66 = .ok (.iand, 1) := by decide +kernel
theorem dX10_gone_67 : decode cX10_gone 67 = .ok (.ifCond .eq 56, 3) := by decide +kernel
theorem dX10_gone_70 : decode cX10_gone 70 = .ok (.aload_n 0, 1) := by decide +kernel
theorem dX10_gone_71 : decode cX10_gone 71 = .ok (.aload_n 0, 1) := by decide +kernel
theorem dX10_gone_72 : decode cX10_gone 72 = .ok (.getfield 114, 3) := by decide +kernel
theorem dX10_gone_75 : decode cX10_gone 75 = .ok (.iload 6, 2) := by decide +kernel
theorem dX10_gone_77 : decode cX10_gone 77 = .ok (.iconst (-1), 1) := by decide +kernel
theorem dX10_gone_78 : decode cX10_gone 78 = .ok (.ixor, 1) := by decide +kernel
theorem dX10_gone_79 : decode cX10_gone 79 = .ok (.iand, 1) := by decide +kernel
theorem dX10_gone_80 : decode cX10_gone 80 = .ok (.aload_n 0, 1) := by decide +kernel
theorem dX10_gone_81 : decode cX10_gone 81 = .ok (.getfield 21, 3) := by decide +kernel
theorem dX10_gone_84 : decode cX10_gone 84 = .ok (.invokevirtual 236, 3) := by decide +kernel
theorem dX10_gone_87 : decode cX10_gone 87 = .ok (.iconst 0, 1) := by decide +kernel
theorem dX10_gone_88 : decode cX10_gone 88 = .ok (.invokevirtual 262, 3) := by decide +kernel
theorem dX10_gone_91 : decode cX10_gone 91 = .ok (.iload_n 1, 1) := by decide +kernel
theorem dX10_gone_92 : decode cX10_gone 92 = .ok (.invokevirtual 233, 3) := by decide +kernel
theorem dX10_gone_95 : decode cX10_gone 95 = .ok (.istore 7, 2) := by decide +kernel
theorem dX10_gone_97 : decode cX10_gone 97 = .ok (.iload 7, 2) := by decide +kernel
theorem dX10_gone_99 : decode cX10_gone 99 = .ok (.iconst (-1), 1) := by decide +kernel
theorem dX10_gone_100 : decode cX10_gone 100 = .ok (.if_icmp .eq 23, 3) := by decide +kernel
theorem dX10_gone_103 : decode cX10_gone 103 = .ok (.iload 4, 2) := by decide +kernel
theorem dX10_gone_105 : decode cX10_gone 105 = .ok (.iconst (-1), 1) := by decide +kernel
theorem dX10_gone_106 : decode cX10_gone 106 = .ok (.if_icmp .eq 10, 3) := by decide +kernel
theorem dX10_gone_109 : decode cX10_gone 109 = .ok (.iload 7, 2) := by decide +kernel
theorem dX10_gone_111 : decode cX10_gone 111 = .ok (.iload 4, 2) := by decide +kernel
theorem dX10_gone_113 : decode cX10_gone 113 = .ok (.if_icmp .ge 10, 3) := by decide +kernel
theorem dX10_gone_116 : decode cX10_gone 116 = .ok (.iload 7, 2) := by decide +kernel
theorem dX10_gone_118 : decode cX10_gone 118 = .ok (.istore 4, 2) := by decide +kernel
theorem dX10_gone_120 : decode cX10_gone 120 = .ok (.iload 5, 2) := by decide +kernel
theorem dX10_gone_122 : decode cX10_gone 122 = .ok (.istore_n 3, 1) := by decide +kernel
theorem dX10_gone_123 : decode cX10_gone 123 = .ok (.iinc 5 1, 3) := by decide +kernel
theorem dX10_gone_126 : decode cX10_gone 126 = .ok (.goto (-85), 3) := by decide +kernel
theorem dX10_gone_129 : decode cX10_gone 129 = .ok (.iload_n 3, 1) := by decide +kernel
theorem dX10_gone_130 : decode cX10_gone 130 = .ok (.iconst (-1), 1) := by decide +kernel
theorem dX10_gone_131 : decode cX10_gone 131 = .ok (.if_icmp .eq 7, 3) := by decide +kernel
theorem dX10_gone_134 : decode cX10_gone 134 = .ok (.iload_n 2, 1) := by decide +kernel
theorem dX10_gone_135 : decode cX10_gone 135 = .ok (.ifCond .ne 7, 3) := by decide +kernel
theorem dX10_gone_138 : decode cX10_gone 138 = .ok (.iload_n 3, 1) := by decide +kernel
theorem dX10_gone_139 : decode cX10_gone 139 = .ok (.goto 5, 3) := by decide +kernel
theorem dX10_gone_142 : decode cX10_gone 142 = .ok (.iload 4, 2) := by decide +kernel
theorem dX10_gone_144 : decode cX10_gone 144 = .ok (.ireturn, 1) := by decide +kernel
theorem dX5_openAll_0 : decode cX5_openAll 0 = .ok (.aload_n 0, 1) := by decide +kernel
theorem dX5_openAll_1 : decode cX5_openAll 1 = .ok (.getfield 53, 3) := by decide +kernel
theorem dX5_openAll_4 : decode cX5_openAll 4 = .ok (.istore_n 1, 1) := by decide +kernel
theorem dX5_openAll_5 : decode cX5_openAll 5 = .ok (.iload_n 1, 1) := by decide +kernel
theorem dX5_openAll_6 : decode cX5_openAll 6 = .ok (.aload_n 0, 1) := by decide +kernel
theorem dX5_openAll_7 : decode cX5_openAll 7 = .ok (.getfield 50, 3) := by decide +kernel
theorem dX5_openAll_10 : decode cX5_openAll 10 = .ok (.if_icmp .ge 28, 3) := by decide +kernel
theorem dX5_openAll_13 : decode cX5_openAll 13 = .ok (.iload_n 1, 1) := by decide +kernel
theorem dX5_openAll_14 : decode cX5_openAll 14 = .ok (.ldc 86, 2) := by decide +kernel
theorem dX5_openAll_16 : decode cX5_openAll 16 = .ok (.if_icmp .ge 22, 3) := by decide +kernel
theorem dX5_openAll_19 : decode cX5_openAll 19 = .ok (.aload_n 0, 1) := by decide +kernel
theorem dX5_openAll_20 : decode cX5_openAll 20 = .ok (.iload_n 1, 1) := by decide +kernel
theorem dX5_openAll_21 : decode cX5_openAll 21 = .ok (.iconst 0, 1) := by decide +kernel
theorem dX5_openAll_22 : decode cX5_openAll 22 = .ok (.aload_n 0, 1) := by decide +kernel
theorem dX5_openAll_23 : decode cX5_openAll 23 = .ok (.getfield 24, 3) := by decide +kernel
theorem dX5_openAll_26 : decode cX5_openAll 26 = .ok (.invokevirtual 87, 3) := by decide +kernel
theorem dX5_openAll_29 : decode cX5_openAll 29 = .ok (.invokevirtual 90, 3) := by decide +kernel
theorem dX5_openAll_32 : decode cX5_openAll 32 = .ok (.iinc 1 1, 3) := by decide +kernel
theorem dX5_openAll_35 : decode cX5_openAll 35 = .ok (.goto (-30), 3) := by decide +kernel
theorem dX5_openAll_38 : decode cX5_openAll 38 = .ok (.return_, 1) := by decide +kernel
theorem dX5_statesAt_0 : decode cX5_statesAt 0 = .ok (.aload_n 0, 1) := by decide +kernel
theorem dX5_statesAt_1 : decode cX5_statesAt 1 = .ok (.invokevirtual 108, 3) := by decide +kernel
theorem dX5_statesAt_4 : decode cX5_statesAt 4 = .ok (.iconst 0, 1) := by decide +kernel
theorem dX5_statesAt_5 : decode cX5_statesAt 5 = .ok (.istore_n 2, 1) := by decide +kernel
theorem dX5_statesAt_6 : decode cX5_statesAt 6 = .ok (.iconst 0, 1) := by decide +kernel
theorem dX5_statesAt_7 : decode cX5_statesAt 7 = .ok (.istore_n 3, 1) := by decide +kernel
theorem dX5_statesAt_8 : decode cX5_statesAt 8 = .ok (.iload_n 3, 1) := by decide +kernel
theorem dX5_statesAt_9 : decode cX5_statesAt 9 = .ok (.aload_n 0, 1) := by decide +kernel
theorem dX5_statesAt_10 : decode cX5_statesAt 10 = .ok (.getfield 50, 3) := by decide +kernel
theorem dX5_statesAt_13 : decode cX5_statesAt 13 = .ok (.if_icmp .ge 27, 3) := by decide +kernel
theorem dX5_statesAt_16 : decode cX5_statesAt 16 = .ok (.iload_n 3, 1) := by decide +kernel
theorem dX5_statesAt_17 : decode cX5_statesAt 17 = .ok (.ldc 86, 2) := by decide +kernel
theorem dX5_statesAt_19 : decode cX5_statesAt 19 = .ok (.if_icmp .ge 21, 3) := by decide +kernel
theorem dX5_statesAt_22 : decode cX5_statesAt 22 = .ok (.aload_n 0, 1) := by decide +kernel
theorem dX5_statesAt_23 : decode cX5_statesAt 23 = .ok (.iload_n 3, 1) := by decide +kernel
theorem dX5_statesAt_24 : decode cX5_statesAt 24 = .ok (.invokevirtual 74, 3) := by decide +kernel
theorem dX5_statesAt_27 : decode cX5_statesAt 27 = .ok (.iload_n 1, 1) := by decide +kernel
theorem dX5_statesAt_28 : decode cX5_statesAt 28 = .ok (.if_icmp .ne 6, 3) := by decide +kernel
theorem dX5_statesAt_31 : decode cX5_statesAt 31 = .ok (.iinc 2 1, 3) := by decide +kernel
theorem dX5_statesAt_34 : decode cX5_statesAt 34 = .ok (.iinc 3 1, 3) := by decide +kernel
theorem dX5_statesAt_37 : decode cX5_statesAt 37 = .ok (.goto (-29), 3) := by decide +kernel
theorem dX5_statesAt_40 : decode cX5_statesAt 40 = .ok (.iload_n 2, 1) := by decide +kernel
theorem dX5_statesAt_41 : decode cX5_statesAt 41 = .ok (.ireturn, 1) := by decide +kernel
theorem dX10_many_0 : decode cX10_many 0 = .ok (.iload_n 1, 1) := by decide +kernel
theorem dX10_many_1 : decode cX10_many 1 = .ok (.ifCond .ge 8, 3) := by decide +kernel
theorem dX10_many_4 : decode cX10_many 4 = .ok (.bipush (-3), 2) := by decide +kernel
theorem dX10_many_6 : decode cX10_many 6 = .ok (.goto 11, 3) := by decide +kernel
theorem dX10_many_9 : decode cX10_many 9 = .ok (.aload_n 0, 1) := by decide +kernel
theorem dX10_many_10 : decode cX10_many 10 = .ok (.invokevirtual 230, 3) := by decide +kernel
theorem dX10_many_13 : decode cX10_many 13 = .ok (.iload_n 1, 1) := by decide +kernel
theorem dX10_many_14 : decode cX10_many 14 = .ok (.invokevirtual 277, 3) := by decide +kernel
theorem dX10_many_17 : decode cX10_many 17 = .ok (.ireturn, 1) := by decide +kernel
theorem dX5_greatestDistance_0 : decode cX5_greatestDistance 0 = .ok (.aload_n 0, 1) := by decide +kernel
theorem dX5_greatestDistance_1 : decode cX5_greatestDistance 1 = .ok (.invokevirtual 108, 3) := by decide +kernel
theorem dX5_greatestDistance_4 : decode cX5_greatestDistance 4 = .ok (.aload_n 0, 1) := by decide +kernel
theorem dX5_greatestDistance_5 : decode cX5_greatestDistance 5 = .ok (.aload_n 0, 1) := by decide +kernel
theorem dX5_greatestDistance_6 : decode cX5_greatestDistance 6 = .ok (.getfield 50, 3) := by decide +kernel
theorem dX5_greatestDistance_9 : decode cX5_greatestDistance 9 = .ok (.iconst 1, 1) := by decide +kernel
theorem dX5_greatestDistance_10 : decode cX5_greatestDistance 10 = .ok (.isub, 1) := by decide +kernel
theorem dX5_greatestDistance_11 : decode cX5_greatestDistance 11 = .ok (.invokevirtual 74, 3) := by decide +kernel
theorem dX5_greatestDistance_14 : decode cX5_greatestDistance 14 = .ok (.ireturn, 1) := by decide +kernel
theorem dX10_farthest_0 : decode cX10_farthest 0 = .ok (.aload_n 0, 1) := by decide +kernel
theorem dX10_farthest_1 : decode cX10_farthest 1 = .ok (.invokevirtual 230, 3) := by decide +kernel
theorem dX10_farthest_4 : decode cX10_farthest 4 = .ok (.invokevirtual 280, 3) := by decide +kernel
theorem dX10_farthest_7 : decode cX10_farthest 7 = .ok (.ireturn, 1) := by decide +kernel
theorem dX10_row_0 : decode cX10_row 0 = .ok (.aload_n 0, 1) := by decide +kernel
theorem dX10_row_1 : decode cX10_row 1 = .ok (.iload_n 1, 1) := by decide +kernel
theorem dX10_row_2 : decode cX10_row 2 = .ok (.iload_n 2, 1) := by decide +kernel
theorem dX10_row_3 : decode cX10_row 3 = .ok (.iload_n 3, 1) := by decide +kernel
theorem dX10_row_4 : decode cX10_row 4 = .ok (.invokevirtual 193, 3) := by decide +kernel
theorem dX10_row_7 : decode cX10_row 7 = .ok (.istore 4, 2) := by decide +kernel
theorem dX10_row_9 : decode cX10_row 9 = .ok (.iload 4, 2) := by decide +kernel
theorem dX10_row_11 : decode cX10_row 11 = .ok (.ifCond .eq 6, 3) := by decide +kernel
theorem dX10_row_14 : decode cX10_row 14 = .ok (.iload 4, 2) := by decide +kernel
theorem dX10_row_16 : decode cX10_row 16 = .ok (.ireturn, 1) := by decide +kernel
theorem dX10_row_17 : decode cX10_row 17 = .ok (.aload_n 0, 1) := by decide +kernel
theorem dX10_row_18 : decode cX10_row 18 = .ok (.getfield 70, 3) := by decide +kernel
theorem dX10_row_21 : decode cX10_row 21 = .ok (.aload_n 0, 1) := by decide +kernel
theorem dX10_row_22 : decode cX10_row 22 = .ok (.getfield 37, 3) := by decide +kernel
theorem dX10_row_25 : decode cX10_row 25 = .ok (.iload_n 1, 1) := by decide +kernel
theorem dX10_row_26 : decode cX10_row 26 = .ok (.iload_n 2, 1) := by decide +kernel
theorem dX10_row_27 : decode cX10_row 27 = .ok (.iload_n 3, 1) := by decide +kernel
theorem dX10_row_28 : decode cX10_row 28 = .ok (.invokevirtual 197, 3) := by decide +kernel
theorem dX10_row_31 : decode cX10_row 31 = .ok (.invokevirtual 79, 3) := by decide +kernel
theorem dX10_row_34 : decode cX10_row 34 = .ok (.ifCond .eq 13, 3) := by decide +kernel
theorem dX10_row_37 : decode cX10_row 37 = .ok (.aload_n 0, 1) := by decide +kernel
theorem dX10_row_38 : decode cX10_row 38 = .ok (.getfield 70, 3) := by decide +kernel
theorem dX10_row_41 : decode cX10_row 41 = .ok (.invokevirtual 83, 3) := by decide +kernel
theorem dX10_row_44 : decode cX10_row 44 = .ok (.goto 5, 3) := by decide +kernel
theorem dX10_row_47 : decode cX10_row 47 = .ok (.bipush (-5), 2) := by decide +kernel
theorem dX10_row_49 : decode cX10_row 49 = .ok (.ireturn, 1) := by decide +kernel
theorem dX10_burn_0 : decode cX10_burn 0 = .ok (.aload_n 0, 1) := by decide +kernel
theorem dX10_burn_1 : decode cX10_burn 1 = .ok (.getfield 70, 3) := by decide +kernel
theorem dX10_burn_4 : decode cX10_burn 4 = .ok (.invokevirtual 87, 3) := by decide +kernel
theorem dX10_burn_7 : decode cX10_burn 7 = .ok (.ireturn, 1) := by decide +kernel
theorem dX10_judge_0 : decode cX10_judge 0 = .ok (.iload_n 1, 1) := by decide +kernel
theorem dX10_judge_1 : decode cX10_judge 1 = .ok (.ifCond .lt 8, 3) := by decide +kernel
theorem dX10_judge_4 : decode cX10_judge 4 = .ok (.iload_n 1, 1) := by decide +kernel
theorem dX10_judge_5 : decode cX10_judge 5 = .ok (.iconst 1, 1) := by decide +kernel
theorem dX10_judge_6 : decode cX10_judge 6 = .ok (.if_icmp .le 6, 3) := by decide +kernel
theorem dX10_judge_9 : decode cX10_judge 9 = .ok (.bipush (-3), 2) := by decide +kernel
theorem dX10_judge_11 : decode cX10_judge 11 = .ok (.ireturn, 1) := by decide +kernel
theorem dX10_judge_12 : decode cX10_judge 12 = .ok (.aload_n 0, 1) := by decide +kernel
theorem dX10_judge_13 : decode cX10_judge 13 = .ok (.getfield 114, 3) := by decide +kernel
theorem dX10_judge_16 : decode cX10_judge 16 = .ok (.istore_n 2, 1) := by decide +kernel
theorem dX10_judge_17 : decode cX10_judge 17 = .ok (.iconst (-1), 1) := by decide +kernel
theorem dX10_judge_18 : decode cX10_judge 18 = .ok (.istore_n 3, 1) := by decide +kernel
theorem dX10_judge_19 : decode cX10_judge 19 = .ok (.iconst 0, 1) := by decide +kernel
theorem dX10_judge_20 : decode cX10_judge 20 = .ok (.istore 4, 2) := by decide +kernel
theorem dX10_judge_22 : decode cX10_judge 22 = .ok (.iload 4, 2) := by decide +kernel
theorem dX10_judge_24 : decode cX10_judge 24 = .ok (.bipush 12, 2) := by decide +kernel
theorem dX10_judge_26 : decode cX10_judge 26 = .ok (.if_icmp .ge 63, 3) := by decide +kernel
theorem dX10_judge_29 : decode cX10_judge 29 = .ok (.iload 4, 2) := by decide +kernel
theorem dX10_judge_31 : decode cX10_judge 31 = .ok (.aload_n 0, 1) := by decide +kernel
theorem dX10_judge_32 : decode cX10_judge 32 = .ok (.getfield 70, 3) := by decide +kernel
theorem dX10_judge_35 : decode cX10_judge 35 = .ok (.invokevirtual 83, 3) := by decide +kernel
theorem dX10_judge_38 : decode cX10_judge 38 = .ok (.if_icmp .ge 51, 3) := by decide +kernel
theorem dX10_judge_41 : decode cX10_judge 41 = .ok (.iload_n 3, 1) := by decide +kernel
theorem dX10_judge_42 : decode cX10_judge 42 = .ok (.iconst (-1), 1) := by decide +kernel
theorem dX10_judge_43 : decode cX10_judge 43 = .ok (.if_icmp .ne 46, 3) := by decide +kernel
theorem dX10_judge_46 : decode cX10_judge 46 = .ok (.aload_n 0, 1) := by decide +kernel
theorem dX10_judge_47 : decode cX10_judge 47 = .ok (.getfield 37, 3) := by decide +kernel
theorem dX10_judge_50 : decode cX10_judge 50 = .ok (.iload_n 2, 1) := by decide +kernel
theorem dX10_judge_51 : decode cX10_judge 51 = .ok (.aload_n 0, 1) := by decide +kernel
theorem dX10_judge_52 : decode cX10_judge 52 = .ok (.getfield 70, 3) := by decide +kernel
theorem dX10_judge_55 : decode cX10_judge 55 = .ok (.iload 4, 2) := by decide +kernel
theorem dX10_judge_57 : decode cX10_judge 57 = .ok (.invokevirtual 221, 3) := by decide +kernel
theorem dX10_judge_60 : decode cX10_judge 60 = .ok (.invokevirtual 200, 3) := by decide +kernel
theorem dX10_judge_63 : decode cX10_judge 63 = .ok (.istore 5, 2) := by decide +kernel
theorem dX10_judge_65 : decode cX10_judge 65 = .ok (.iload 5, 2) := by decide +kernel
theorem dX10_judge_67 : decode cX10_judge 67 = .ok (.iconst (-1), 1) := by decide +kernel
theorem dX10_judge_68 : decode cX10_judge 68 = .ok (.if_icmp .ne 9, 3) := by decide +kernel
theorem dX10_judge_71 : decode cX10_judge 71 = .ok (.iload 4, 2) := by decide +kernel
theorem dX10_judge_73 : decode cX10_judge 73 = .ok (.istore_n 3, 1) := by decide +kernel
theorem dX10_judge_74 : decode cX10_judge 74 = .ok (.goto 9, 3) := by decide +kernel
theorem dX10_judge_77 : decode cX10_judge 77 = .ok (.iload 5, 2) := by decide +kernel
theorem dX10_judge_79 : decode cX10_judge 79 = .ok (.invokestatic 215, 3) := by decide +kernel
theorem dX10_judge_82 : decode cX10_judge 82 = .ok (.istore_n 2, 1) := by decide +kernel
theorem dX10_judge_83 : decode cX10_judge 83 = .ok (.iinc 4 1, 3) := by decide +kernel
theorem dX10_judge_86 : decode cX10_judge 86 = .ok (.goto (-64), 3) := by decide +kernel
theorem dX10_judge_89 : decode cX10_judge 89 = .ok (.iload_n 1, 1) := by decide +kernel
theorem dX10_judge_90 : decode cX10_judge 90 = .ok (.ifCond .ne 7, 3) := by decide +kernel
theorem dX10_judge_93 : decode cX10_judge 93 = .ok (.iload_n 3, 1) := by decide +kernel
theorem dX10_judge_94 : decode cX10_judge 94 = .ok (.goto 10, 3) := by decide +kernel
theorem dX10_judge_97 : decode cX10_judge 97 = .ok (.iload_n 2, 1) := by decide +kernel
theorem dX10_judge_98 : decode cX10_judge 98 = .ok (.invokestatic 271, 3) := by decide +kernel
theorem dX10_judge_101 : decode cX10_judge 101 = .ok (.invokestatic 257, 3) := by decide +kernel
theorem dX10_judge_104 : decode cX10_judge 104 = .ok (.ireturn, 1) := by decide +kernel
theorem dX10_prince_0 : decode cX10_prince 0 = .ok (.aload_n 0, 1) := by decide +kernel
theorem dX10_prince_1 : decode cX10_prince 1 = .ok (.getfield 21, 3) := by decide +kernel
theorem dX10_prince_4 : decode cX10_prince 4 = .ok (.iload_n 1, 1) := by decide +kernel
theorem dX10_prince_5 : decode cX10_prince 5 = .ok (.invokevirtual 128, 3) := by decide +kernel
theorem dX10_prince_8 : decode cX10_prince 8 = .ok (.ifCond .eq 12, 3) := by decide +kernel
theorem dX10_prince_11 : decode cX10_prince 11 = .ok (.aload_n 0, 1) := by decide +kernel
theorem dX10_prince_12 : decode cX10_prince 12 = .ok (.iload_n 1, 1) := by decide +kernel
theorem dX10_prince_13 : decode cX10_prince 13 = .ok (.iload_n 3, 1) := by decide +kernel
theorem dX10_prince_14 : decode cX10_prince 14 = .ok (.invokevirtual 203, 3) := by decide +kernel
theorem dX10_prince_17 : decode cX10_prince 17 = .ok (.ifCond .ne 6, 3) := by decide +kernel
theorem dX10_prince_20 : decode cX10_prince 20 = .ok (.bipush (-2), 2) := by decide +kernel
theorem dX10_prince_22 : decode cX10_prince 22 = .ok (.ireturn, 1) := by decide +kernel
theorem dX10_prince_23 : decode cX10_prince 23 = .ok (.iload_n 2, 1) := by decide +kernel
theorem dX10_prince_24 : decode cX10_prince 24 = .ok (.ifCond .lt 9, 3) := by decide +kernel
theorem dX10_prince_27 : decode cX10_prince 27 = .ok (.iload_n 2, 1) := by decide +kernel
theorem dX10_prince_28 : decode cX10_prince 28 = .ok (.bipush 6, 2) := by decide +kernel
theorem dX10_prince_30 : decode cX10_prince 30 = .ok (.if_icmp .le 6, 3) := by decide +kernel
theorem dX10_prince_33 : decode cX10_prince 33 = .ok (.bipush (-3), 2) := by decide +kernel
theorem dX10_prince_35 : decode cX10_prince 35 = .ok (.ireturn, 1) := by decide +kernel
theorem dX10_prince_36 : decode cX10_prince 36 = .ok (.aload_n 0, 1) := by decide +kernel
theorem dX10_prince_37 : decode cX10_prince 37 = .ok (.getfield 37, 3) := by decide +kernel
theorem dX10_prince_40 : decode cX10_prince 40 = .ok (.iload_n 1, 1) := by decide +kernel
theorem dX10_prince_41 : decode cX10_prince 41 = .ok (.iconst 0, 1) := by decide +kernel
theorem dX10_prince_42 : decode cX10_prince 42 = .ok (.iload_n 3, 1) := by decide +kernel
theorem dX10_prince_43 : decode cX10_prince 43 = .ok (.invokevirtual 197, 3) := by decide +kernel
theorem dX10_prince_46 : decode cX10_prince 46 = .ok (.istore 4, 2) := by decide +kernel
theorem dX10_prince_48 : decode cX10_prince 48 = .ok (.aload_n 0, 1) := by decide +kernel
theorem dX10_prince_49 : decode cX10_prince 49 = .ok (.getfield 73, 3) := by decide +kernel
theorem dX10_prince_52 : decode cX10_prince 52 = .ok (.iload 4, 2) := by decide +kernel
theorem dX10_prince_54 : decode cX10_prince 54 = .ok (.iconst 3, 1) := by decide +kernel
theorem dX10_prince_55 : decode cX10_prince 55 = .ok (.ishl, 1) := by decide +kernel
theorem dX10_prince_56 : decode cX10_prince 56 = .ok (.iload_n 2, 1) := by decide +kernel
theorem dX10_prince_57 : decode cX10_prince 57 = .ok (.ior, 1) := by decide +kernel
theorem dX10_prince_58 : decode cX10_prince 58 = .ok (.invokevirtual 79, 3) := by decide +kernel
theorem dX10_prince_61 : decode cX10_prince 61 = .ok (.ifCond .eq 13, 3) := by decide +kernel
theorem dX10_prince_64 : decode cX10_prince 64 = .ok (.aload_n 0, 1) := by decide +kernel
theorem dX10_prince_65 : decode cX10_prince 65 = .ok (.getfield 73, 3) := by decide +kernel
theorem dX10_prince_68 : decode cX10_prince 68 = .ok (.invokevirtual 83, 3) := by decide +kernel
theorem dX10_prince_71 : decode cX10_prince 71 = .ok (.goto 5, 3) := by decide +kernel
theorem dX10_prince_74 : decode cX10_prince 74 = .ok (.bipush (-5), 2) := by decide +kernel
theorem dX10_prince_76 : decode cX10_prince 76 = .ok (.ireturn, 1) := by decide +kernel
theorem dX10_dismiss_0 : decode cX10_dismiss 0 = .ok (.aload_n 0, 1) := by decide +kernel
theorem dX10_dismiss_1 : decode cX10_dismiss 1 = .ok (.getfield 73, 3) := by decide +kernel
theorem dX10_dismiss_4 : decode cX10_dismiss 4 = .ok (.invokevirtual 87, 3) := by decide +kernel
theorem dX10_dismiss_7 : decode cX10_dismiss 7 = .ok (.ireturn, 1) := by decide +kernel
theorem dX6_day_0 : decode cX6_day 0 = .ok (.iload_n 0, 1) := by decide +kernel
theorem dX6_day_1 : decode cX6_day 1 = .ok (.bipush 13, 2) := by decide +kernel
theorem dX6_day_3 : decode cX6_day 3 = .ok (.ishr, 1) := by decide +kernel
theorem dX6_day_4 : decode cX6_day 4 = .ok (.bipush 7, 2) := by decide +kernel
theorem dX6_day_6 : decode cX6_day 6 = .ok (.iand, 1) := by decide +kernel
theorem dX6_day_7 : decode cX6_day 7 = .ok (.ireturn, 1) := by decide +kernel
theorem dX10_inLine_0 : decode cX10_inLine 0 = .ok (.iload_n 1, 1) := by decide +kernel
theorem dX10_inLine_1 : decode cX10_inLine 1 = .ok (.ifCond .lt 8, 3) := by decide +kernel
theorem dX10_inLine_4 : decode cX10_inLine 4 = .ok (.iload_n 1, 1) := by decide +kernel
theorem dX10_inLine_5 : decode cX10_inLine 5 = .ok (.iconst 1, 1) := by decide +kernel
theorem dX10_inLine_6 : decode cX10_inLine 6 = .ok (.if_icmp .le 6, 3) := by decide +kernel
theorem dX10_inLine_9 : decode cX10_inLine 9 = .ok (.bipush (-3), 2) := by decide +kernel
theorem dX10_inLine_11 : decode cX10_inLine 11 = .ok (.ireturn, 1) := by decide +kernel
theorem dX10_inLine_12 : decode cX10_inLine 12 = .ok (.aload_n 0, 1) := by decide +kernel
theorem dX10_inLine_13 : decode cX10_inLine 13 = .ok (.getfield 114, 3) := by decide +kernel
theorem dX10_inLine_16 : decode cX10_inLine 16 = .ok (.istore_n 2, 1) := by decide +kernel
theorem dX10_inLine_17 : decode cX10_inLine 17 = .ok (.iconst 0, 1) := by decide +kernel
theorem dX10_inLine_18 : decode cX10_inLine 18 = .ok (.istore_n 3, 1) := by decide +kernel
theorem dX10_inLine_19 : decode cX10_inLine 19 = .ok (.iconst 0, 1) := by decide +kernel
theorem dX10_inLine_20 : decode cX10_inLine 20 = .ok (.istore 4, 2) := by decide +kernel
theorem dX10_inLine_22 : decode cX10_inLine 22 = .ok (.iconst 0, 1) := by decide +kernel
theorem dX10_inLine_23 : decode cX10_inLine 23 = .ok (.istore 5, 2) := by decide +kernel
theorem dX10_inLine_25 : decode cX10_inLine 25 = .ok (.iload 5, 2) := by decide +kernel
theorem dX10_inLine_27 : decode cX10_inLine 27 = .ok (.iconst 5, 1) := by decide +kernel
theorem dX10_inLine_28 : decode cX10_inLine 28 = .ok (.if_icmp .ge 141, 3) := by decide +kernel
theorem dX10_inLine_31 : decode cX10_inLine 31 = .ok (.iload 5, 2) := by decide +kernel
theorem dX10_inLine_33 : decode cX10_inLine 33 = .ok (.aload_n 0, 1) := by decide +kernel
theorem dX10_inLine_34 : decode cX10_inLine 34 = .ok (.getfield 73, 3) := by decide +kernel
theorem dX10_inLine_37 : decode cX10_inLine 37 = .ok (.invokevirtual 83, 3) := by decide +kernel
theorem dX10_inLine_40 : decode cX10_inLine 40 = .ok (.if_icmp .ge 129, 3) := by decide +kernel
theorem dX10_inLine_43 : decode cX10_inLine 43 = .ok (.aload_n 0, 1) := by decide +kernel
theorem dX10_inLine_44 : decode cX10_inLine 44 = .ok (.getfield 73, 3) := by decide +kernel
theorem dX10_inLine_47 : decode cX10_inLine 47 = .ok (.iload 5, 2) := by decide +kernel
theorem dX10_inLine_49 : decode cX10_inLine 49 = .ok (.invokevirtual 221, 3) := by decide +kernel
theorem dX10_inLine_52 : decode cX10_inLine 52 = .ok (.bipush 7, 2) := by decide +kernel
theorem dX10_inLine_54 : decode cX10_inLine 54 = .ok (.iand, 1) := by decide +kernel
theorem dX10_inLine_55 : decode cX10_inLine 55 = .ok (.istore 6, 2) := by decide +kernel
theorem dX10_inLine_57 : decode cX10_inLine 57 = .ok (.iconst 0, 1) := by decide +kernel
theorem dX10_inLine_58 : decode cX10_inLine 58 = .ok (.istore 7, 2) := by decide +kernel
theorem dX10_inLine_60 : decode cX10_inLine 60 = .ok (.iload 7, 2) := by decide +kernel
theorem dX10_inLine_62 : decode cX10_inLine 62 = .ok (.bipush 6, 2) := by decide +kernel
theorem dX10_inLine_64 : decode cX10_inLine 64 = .ok (.if_icmp .ge 55, 3) := by decide +kernel
theorem dX10_inLine_67 : decode cX10_inLine 67 = .ok (.iload_n 2, 1) := by decide +kernel
theorem dX10_inLine_68 : decode cX10_inLine 68 = .ok (.invokestatic 283, 3) := by decide +kernel
theorem dX10_inLine_71 : decode cX10_inLine 71 = .ok (.iload 6, 2) := by decide +kernel
theorem dX10_inLine_73 : decode cX10_inLine 73 = .ok (.if_icmp .eq 46, 3) := by decide +kernel
theorem dX10_inLine_76 : decode cX10_inLine 76 = .ok (.aload_n 0, 1) := by decide +kernel
theorem dX10_inLine_77 : decode cX10_inLine 77 = .ok (.getfield 37, 3) := by decide +kernel
theorem dX10_inLine_80 : decode cX10_inLine 80 = .ok (.iload_n 2, 1) := by decide +kernel
theorem dX10_inLine_81 : decode cX10_inLine 81 = .ok (.aload_n 0, 1) := by decide +kernel
theorem dX10_inLine_82 : decode cX10_inLine 82 = .ok (.getfield 37, 3) := by decide +kernel
theorem dX10_inLine_85 : decode cX10_inLine 85 = .ok (.invokevirtual 286, 3) := by decide +kernel
theorem dX10_inLine_88 : decode cX10_inLine 88 = .ok (.invokevirtual 200, 3) := by decide +kernel
theorem dX10_inLine_91 : decode cX10_inLine 91 = .ok (.istore 8, 2) := by decide +kernel
theorem dX10_inLine_93 : decode cX10_inLine 93 = .ok (.iload 8, 2) := by decide +kernel
theorem dX10_inLine_95 : decode cX10_inLine 95 = .ok (.invokestatic 215, 3) := by decide +kernel
theorem dX10_inLine_98 : decode cX10_inLine 98 = .ok (.istore_n 2, 1) := by decide +kernel
theorem dX10_inLine_99 : decode cX10_inLine 99 = .ok (.iload_n 3, 1) := by decide +kernel
theorem dX10_inLine_100 : decode cX10_inLine 100 = .ok (.iload 8, 2) := by decide +kernel
theorem dX10_inLine_102 : decode cX10_inLine 102 = .ok (.invokestatic 218, 3) := by decide +kernel
theorem dX10_inLine_105 : decode cX10_inLine 105 = .ok (.invokestatic 257, 3) := by decide +kernel
theorem dX10_inLine_108 : decode cX10_inLine 108 = .ok (.iadd, 1) := by decide +kernel
theorem dX10_inLine_109 : decode cX10_inLine 109 = .ok (.istore_n 3, 1) := by decide +kernel
theorem dX10_inLine_110 : decode cX10_inLine 110 = .ok (.iinc 4 1, 3) := by decide +kernel
theorem dX10_inLine_113 : decode cX10_inLine 113 = .ok (.iinc 7 1, 3) := by decide +kernel
theorem dX10_inLine_116 : decode cX10_inLine 116 = .ok (.goto (-56), 3) := by decide +kernel
theorem dX10_inLine_119 : decode cX10_inLine 119 = .ok (.aload_n 0, 1) := by decide +kernel
theorem dX10_inLine_120 : decode cX10_inLine 120 = .ok (.getfield 37, 3) := by decide +kernel
theorem dX10_inLine_123 : decode cX10_inLine 123 = .ok (.iload_n 2, 1) := by decide +kernel
theorem dX10_inLine_124 : decode cX10_inLine 124 = .ok (.aload_n 0, 1) := by decide +kernel
theorem dX10_inLine_125 : decode cX10_inLine 125 = .ok (.getfield 73, 3) := by decide +kernel
theorem dX10_inLine_128 : decode cX10_inLine 128 = .ok (.iload 5, 2) := by decide +kernel
theorem dX10_inLine_130 : decode cX10_inLine 130 = .ok (.invokevirtual 221, 3) := by decide +kernel
theorem dX10_inLine_133 : decode cX10_inLine 133 = .ok (.iconst 3, 1) := by decide +kernel
theorem dX10_inLine_134 : decode cX10_inLine 134 = .ok (.ishr, 1) := by decide +kernel
theorem dX10_inLine_135 : decode cX10_inLine 135 = .ok (.invokevirtual 200, 3) := by decide +kernel
theorem dX10_inLine_138 : decode cX10_inLine 138 = .ok (.istore 7, 2) := by decide +kernel
theorem dX10_inLine_140 : decode cX10_inLine 140 = .ok (.iload 7, 2) := by decide +kernel
theorem dX10_inLine_142 : decode cX10_inLine 142 = .ok (.iconst (-1), 1) := by decide +kernel
theorem dX10_inLine_143 : decode cX10_inLine 143 = .ok (.if_icmp .eq 20, 3) := by decide +kernel
theorem dX10_inLine_146 : decode cX10_inLine 146 = .ok (.iload 7, 2) := by decide +kernel
theorem dX10_inLine_148 : decode cX10_inLine 148 = .ok (.invokestatic 215, 3) := by decide +kernel
theorem dX10_inLine_151 : decode cX10_inLine 151 = .ok (.istore_n 2, 1) := by decide +kernel
theorem dX10_inLine_152 : decode cX10_inLine 152 = .ok (.iload_n 3, 1) := by decide +kernel
theorem dX10_inLine_153 : decode cX10_inLine 153 = .ok (.iload 7, 2) := by decide +kernel
theorem dX10_inLine_155 : decode cX10_inLine 155 = .ok (.invokestatic 218, 3) := by decide +kernel
theorem dX10_inLine_158 : decode cX10_inLine 158 = .ok (.invokestatic 257, 3) := by decide +kernel
theorem dX10_inLine_161 : decode cX10_inLine 161 = .ok (.iadd, 1) := by decide +kernel
theorem dX10_inLine_162 : decode cX10_inLine 162 = .ok (.istore_n 3, 1) := by decide +kernel
theorem dX10_inLine_163 : decode cX10_inLine 163 = .ok (.iinc 5 1, 3) := by decide +kernel
theorem dX10_inLine_166 : decode cX10_inLine 166 = .ok (.goto (-141), 3) := by decide +kernel
theorem dX10_inLine_169 : decode cX10_inLine 169 = .ok (.iload_n 1, 1) := by decide +kernel
theorem dX10_inLine_170 : decode cX10_inLine 170 = .ok (.ifCond .ne 7, 3) := by decide +kernel
theorem dX10_inLine_173 : decode cX10_inLine 173 = .ok (.iload_n 3, 1) := by decide +kernel
theorem dX10_inLine_174 : decode cX10_inLine 174 = .ok (.goto 5, 3) := by decide +kernel
theorem dX10_inLine_177 : decode cX10_inLine 177 = .ok (.iload 4, 2) := by decide +kernel
theorem dX10_inLine_179 : decode cX10_inLine 179 = .ok (.ireturn, 1) := by decide +kernel
theorem dX9_packed_0 : decode cX9_packed 0 = .ok (.iload_n 0, 1) := by decide +kernel
theorem dX9_packed_1 : decode cX9_packed 1 = .ok (.iconst 1, 1) := by decide +kernel
theorem dX9_packed_2 : decode cX9_packed 2 = .ok (.iadd, 1) := by decide +kernel
theorem dX9_packed_3 : decode cX9_packed 3 = .ok (.iload_n 1, 1) := by decide +kernel
theorem dX9_packed_4 : decode cX9_packed 4 = .ok (.iconst 3, 1) := by decide +kernel
theorem dX9_packed_5 : decode cX9_packed 5 = .ok (.ishl, 1) := by decide +kernel
theorem dX9_packed_6 : decode cX9_packed 6 = .ok (.ior, 1) := by decide +kernel
theorem dX9_packed_7 : decode cX9_packed 7 = .ok (.iload_n 2, 1) := by decide +kernel
theorem dX9_packed_8 : decode cX9_packed 8 = .ok (.bipush 6, 2) := by decide +kernel
theorem dX9_packed_10 : decode cX9_packed 10 = .ok (.ishl, 1) := by decide +kernel
theorem dX9_packed_11 : decode cX9_packed 11 = .ok (.ior, 1) := by decide +kernel
theorem dX9_packed_12 : decode cX9_packed 12 = .ok (.iload_n 3, 1) := by decide +kernel
theorem dX9_packed_13 : decode cX9_packed 13 = .ok (.bipush 9, 2) := by decide +kernel
theorem dX9_packed_15 : decode cX9_packed 15 = .ok (.ishl, 1) := by decide +kernel
theorem dX9_packed_16 : decode cX9_packed 16 = .ok (.ior, 1) := by decide +kernel
theorem dX9_packed_17 : decode cX9_packed 17 = .ok (.ireturn, 1) := by decide +kernel
theorem dX9_add_0 : decode cX9_add 0 = .ok (.aload_n 0, 1) := by decide +kernel
theorem dX9_add_1 : decode cX9_add 1 = .ok (.getfield 16, 3) := by decide +kernel
theorem dX9_add_4 : decode cX9_add 4 = .ok (.iload_n 1, 1) := by decide +kernel
theorem dX9_add_5 : decode cX9_add 5 = .ok (.invokevirtual 24, 3) := by decide +kernel
theorem dX9_add_8 : decode cX9_add 8 = .ok (.ifCond .ne 5, 3) := by decide +kernel
theorem dX9_add_11 : decode cX9_add 11 = .ok (.iconst 0, 1) := by decide +kernel
theorem dX9_add_12 : decode cX9_add 12 = .ok (.ireturn, 1) := by decide +kernel
theorem dX9_add_13 : decode cX9_add 13 = .ok (.aload_n 0, 1) := by decide +kernel
theorem dX9_add_14 : decode cX9_add 14 = .ok (.dup, 1) := by decide +kernel
theorem dX9_add_15 : decode cX9_add 15 = .ok (.getfield 28, 3) := by decide +kernel
theorem dX9_add_18 : decode cX9_add 18 = .ok (.iload_n 2, 1) := by decide +kernel
theorem dX9_add_19 : decode cX9_add 19 = .ok (.aload_n 0, 1) := by decide +kernel
theorem dX9_add_20 : decode cX9_add 20 = .ok (.getfield 16, 3) := by decide +kernel
theorem dX9_add_23 : decode cX9_add 23 = .ok (.invokevirtual 32, 3) := by decide +kernel
theorem dX9_add_26 : decode cX9_add 26 = .ok (.iconst 1, 1) := by decide +kernel
theorem dX9_add_27 : decode cX9_add 27 = .ok (.isub, 1) := by decide +kernel
theorem dX9_add_28 : decode cX9_add 28 = .ok (.ishl, 1) := by decide +kernel
theorem dX9_add_29 : decode cX9_add 29 = .ok (.ior, 1) := by decide +kernel
theorem dX9_add_30 : decode cX9_add 30 = .ok (.putfield 28, 3) := by decide +kernel
theorem dX9_add_33 : decode cX9_add 33 = .ok (.iconst 1, 1) := by decide +kernel
theorem dX9_add_34 : decode cX9_add 34 = .ok (.ireturn, 1) := by decide +kernel
theorem dX9_size_0 : decode cX9_size 0 = .ok (.aload_n 0, 1) := by decide +kernel
theorem dX9_size_1 : decode cX9_size 1 = .ok (.getfield 16, 3) := by decide +kernel
theorem dX9_size_4 : decode cX9_size 4 = .ok (.invokevirtual 32, 3) := by decide +kernel
theorem dX9_size_7 : decode cX9_size 7 = .ok (.ireturn, 1) := by decide +kernel
theorem dX10_tried_0 : decode cX10_tried 0 = .ok (.iload_n 1, 1) := by decide +kernel
theorem dX10_tried_1 : decode cX10_tried 1 = .ok (.iconst (-1), 1) := by decide +kernel
theorem dX10_tried_2 : decode cX10_tried 2 = .ok (.if_icmp .eq 17, 3) := by decide +kernel
theorem dX10_tried_5 : decode cX10_tried 5 = .ok (.aload_n 0, 1) := by decide +kernel
theorem dX10_tried_6 : decode cX10_tried 6 = .ok (.getfield 21, 3) := by decide +kernel
theorem dX10_tried_9 : decode cX10_tried 9 = .ok (.iload_n 1, 1) := by decide +kernel
theorem dX10_tried_10 : decode cX10_tried 10 = .ok (.invokevirtual 128, 3) := by decide +kernel
theorem dX10_tried_13 : decode cX10_tried 13 = .ok (.ifCond .ne 6, 3) := by decide +kernel
theorem dX10_tried_16 : decode cX10_tried 16 = .ok (.bipush (-2), 2) := by decide +kernel
theorem dX10_tried_18 : decode cX10_tried 18 = .ok (.ireturn, 1) := by decide +kernel
theorem dX10_tried_19 : decode cX10_tried 19 = .ok (.iload_n 2, 1) := by decide +kernel
theorem dX10_tried_20 : decode cX10_tried 20 = .ok (.aload_n 0, 1) := by decide +kernel
theorem dX10_tried_21 : decode cX10_tried 21 = .ok (.getfield 21, 3) := by decide +kernel
theorem dX10_tried_24 : decode cX10_tried 24 = .ok (.invokevirtual 236, 3) := by decide +kernel
theorem dX10_tried_27 : decode cX10_tried 27 = .ok (.iconst (-1), 1) := by decide +kernel
theorem dX10_tried_28 : decode cX10_tried 28 = .ok (.ixor, 1) := by decide +kernel
theorem dX10_tried_29 : decode cX10_tried 29 = .ok (.iand, 1) := by decide +kernel
theorem dX10_tried_30 : decode cX10_tried 30 = .ok (.ifCond .ne 14, 3) := by decide +kernel
theorem dX10_tried_33 : decode cX10_tried 33 = .ok (.iload 4, 2) := by decide +kernel
theorem dX10_tried_35 : decode cX10_tried 35 = .ok (.ifCond .lt 9, 3) := by decide +kernel
theorem dX10_tried_38 : decode cX10_tried 38 = .ok (.iload 4, 2) := by decide +kernel
theorem dX10_tried_40 : decode cX10_tried 40 = .ok (.iconst 4, 1) := by decide +kernel
theorem dX10_tried_41 : decode cX10_tried 41 = .ok (.if_icmp .lt 6, 3) := by decide +kernel
theorem dX10_tried_44 : decode cX10_tried 44 = .ok (.bipush (-2), 2) := by decide +kernel
theorem dX10_tried_46 : decode cX10_tried 46 = .ok (.ireturn, 1) := by decide +kernel
theorem dX10_tried_47 : decode cX10_tried 47 = .ok (.iload_n 3, 1) := by decide +kernel
theorem dX10_tried_48 : decode cX10_tried 48 = .ok (.ifCond .lt 20, 3) := by decide +kernel
theorem dX10_tried_51 : decode cX10_tried 51 = .ok (.iload_n 3, 1) := by decide +kernel
theorem dX10_tried_52 : decode cX10_tried 52 = .ok (.bipush 6, 2) := by decide +kernel
theorem dX10_tried_54 : decode cX10_tried 54 = .ok (.if_icmp .gt 14, 3) := by decide +kernel
theorem dX10_tried_57 : decode cX10_tried 57 = .ok (.iload 5, 2) := by decide +kernel
theorem dX10_tried_59 : decode cX10_tried 59 = .ok (.ifCond .lt 9, 3) := by decide +kernel
theorem dX10_tried_62 : decode cX10_tried 62 = .ok (.iload 5, 2) := by decide +kernel
theorem dX10_tried_64 : decode cX10_tried 64 = .ok (.iconst 1, 1) := by decide +kernel
theorem dX10_tried_65 : decode cX10_tried 65 = .ok (.if_icmp .le 6, 3) := by decide +kernel
theorem dX10_tried_68 : decode cX10_tried 68 = .ok (.bipush (-3), 2) := by decide +kernel
theorem dX10_tried_70 : decode cX10_tried 70 = .ok (.ireturn, 1) := by decide +kernel
theorem dX10_tried_71 : decode cX10_tried 71 = .ok (.iload_n 1, 1) := by decide +kernel
theorem dX10_tried_72 : decode cX10_tried 72 = .ok (.iload_n 2, 1) := by decide +kernel
theorem dX10_tried_73 : decode cX10_tried 73 = .ok (.iload_n 3, 1) := by decide +kernel
theorem dX10_tried_74 : decode cX10_tried 74 = .ok (.iload 4, 2) := by decide +kernel
theorem dX10_tried_76 : decode cX10_tried 76 = .ok (.invokestatic 289, 3) := by decide +kernel
theorem dX10_tried_79 : decode cX10_tried 79 = .ok (.istore 6, 2) := by decide +kernel
theorem dX10_tried_81 : decode cX10_tried 81 = .ok (.aload_n 0, 1) := by decide +kernel
theorem dX10_tried_82 : decode cX10_tried 82 = .ok (.getfield 56, 3) := by decide +kernel
theorem dX10_tried_85 : decode cX10_tried 85 = .ok (.iload 6, 2) := by decide +kernel
theorem dX10_tried_87 : decode cX10_tried 87 = .ok (.iload 5, 2) := by decide +kernel
theorem dX10_tried_89 : decode cX10_tried 89 = .ok (.invokevirtual 293, 3) := by decide +kernel
theorem dX10_tried_92 : decode cX10_tried 92 = .ok (.ifCond .eq 13, 3) := by decide +kernel
theorem dX10_tried_95 : decode cX10_tried 95 = .ok (.aload_n 0, 1) := by decide +kernel
theorem dX10_tried_96 : decode cX10_tried 96 = .ok (.getfield 56, 3) := by decide +kernel
theorem dX10_tried_99 : decode cX10_tried 99 = .ok (.invokevirtual 295, 3) := by decide +kernel
theorem dX10_tried_102 : decode cX10_tried 102 = .ok (.goto 5, 3) := by decide +kernel
theorem dX10_tried_105 : decode cX10_tried 105 = .ok (.bipush (-5), 2) := by decide +kernel
theorem dX10_tried_107 : decode cX10_tried 107 = .ok (.ireturn, 1) := by decide +kernel
theorem dX10_forget_0 : decode cX10_forget 0 = .ok (.aload_n 0, 1) := by decide +kernel
theorem dX10_forget_1 : decode cX10_forget 1 = .ok (.getfield 56, 3) := by decide +kernel
theorem dX10_forget_4 : decode cX10_forget 4 = .ok (.invokevirtual 127, 3) := by decide +kernel
theorem dX10_forget_7 : decode cX10_forget 7 = .ok (.ireturn, 1) := by decide +kernel
theorem dX9_candidates_0 : decode cX9_candidates 0 = .ok (.iconst 2, 1) := by decide +kernel
theorem dX9_candidates_1 : decode cX9_candidates 1 = .ok (.aload_n 0, 1) := by decide +kernel
theorem dX9_candidates_2 : decode cX9_candidates 2 = .ok (.getfield 39, 3) := by decide +kernel
theorem dX9_candidates_5 : decode cX9_candidates 5 = .ok (.imul, 1) := by decide +kernel
theorem dX9_candidates_6 : decode cX9_candidates 6 = .ok (.bipush 7, 2) := by decide +kernel
theorem dX9_candidates_8 : decode cX9_candidates 8 = .ok (.iadd, 1) := by decide +kernel
theorem dX9_candidates_9 : decode cX9_candidates 9 = .ok (.iconst 4, 1) := by decide +kernel
theorem dX9_candidates_10 : decode cX9_candidates 10 = .ok (.iadd, 1) := by decide +kernel
theorem dX9_candidates_11 : decode cX9_candidates 11 = .ok (.bipush 17, 2) := by decide +kernel
theorem dX9_candidates_13 : decode cX9_candidates 13 = .ok (.invokestatic 42, 3) := by decide +kernel
theorem dX9_candidates_16 : decode cX9_candidates 16 = .ok (.ireturn, 1) := by decide +kernel
theorem dX9_sortOf_0 : decode cX9_sortOf 0 = .ok (.iload_n 1, 1) := by decide +kernel
theorem dX9_sortOf_1 : decode cX9_sortOf 1 = .ok (.aload_n 0, 1) := by decide +kernel
theorem dX9_sortOf_2 : decode cX9_sortOf 2 = .ok (.getfield 39, 3) := by decide +kernel
theorem dX9_sortOf_5 : decode cX9_sortOf 5 = .ok (.if_icmp .ge 5, 3) := by decide +kernel
theorem dX9_sortOf_8 : decode cX9_sortOf 8 = .ok (.iconst 0, 1) := by decide +kernel
theorem dX9_sortOf_9 : decode cX9_sortOf 9 = .ok (.ireturn, 1) := by decide +kernel
theorem dX9_sortOf_10 : decode cX9_sortOf 10 = .ok (.iload_n 1, 1) := by decide +kernel
theorem dX9_sortOf_11 : decode cX9_sortOf 11 = .ok (.iconst 2, 1) := by decide +kernel
theorem dX9_sortOf_12 : decode cX9_sortOf 12 = .ok (.aload_n 0, 1) := by decide +kernel
theorem dX9_sortOf_13 : decode cX9_sortOf 13 = .ok (.getfield 39, 3) := by decide +kernel
theorem dX9_sortOf_16 : decode cX9_sortOf 16 = .ok (.imul, 1) := by decide +kernel
theorem dX9_sortOf_17 : decode cX9_sortOf 17 = .ok (.if_icmp .ge 5, 3) := by decide +kernel
theorem dX9_sortOf_20 : decode cX9_sortOf 20 = .ok (.iconst 1, 1) := by decide +kernel
theorem dX9_sortOf_21 : decode cX9_sortOf 21 = .ok (.ireturn, 1) := by decide +kernel
theorem dX9_sortOf_22 : decode cX9_sortOf 22 = .ok (.iload_n 1, 1) := by decide +kernel
theorem dX9_sortOf_23 : decode cX9_sortOf 23 = .ok (.iconst 2, 1) := by decide +kernel
theorem dX9_sortOf_24 : decode cX9_sortOf 24 = .ok (.aload_n 0, 1) := by decide +kernel
theorem dX9_sortOf_25 : decode cX9_sortOf 25 = .ok (.getfield 39, 3) := by decide +kernel
theorem dX9_sortOf_28 : decode cX9_sortOf 28 = .ok (.imul, 1) := by decide +kernel
theorem dX9_sortOf_29 : decode cX9_sortOf 29 = .ok (.bipush 7, 2) := by decide +kernel
theorem dX9_sortOf_31 : decode cX9_sortOf 31 = .ok (.iadd, 1) := by decide +kernel
theorem dX9_sortOf_32 : decode cX9_sortOf 32 = .ok (.if_icmp .ge 5, 3) := by decide +kernel
theorem dX9_sortOf_35 : decode cX9_sortOf 35 = .ok (.iconst 2, 1) := by decide +kernel
theorem dX9_sortOf_36 : decode cX9_sortOf 36 = .ok (.ireturn, 1) := by decide +kernel
theorem dX9_sortOf_37 : decode cX9_sortOf 37 = .ok (.iload_n 1, 1) := by decide +kernel
theorem dX9_sortOf_38 : decode cX9_sortOf 38 = .ok (.iconst 2, 1) := by decide +kernel
theorem dX9_sortOf_39 : decode cX9_sortOf 39 = .ok (.aload_n 0, 1) := by decide +kernel
theorem dX9_sortOf_40 : decode cX9_sortOf 40 = .ok (.getfield 39, 3) := by decide +kernel
theorem dX9_sortOf_43 : decode cX9_sortOf 43 = .ok (.imul, 1) := by decide +kernel
theorem dX9_sortOf_44 : decode cX9_sortOf 44 = .ok (.bipush 7, 2) := by decide +kernel
theorem dX9_sortOf_46 : decode cX9_sortOf 46 = .ok (.iadd, 1) := by decide +kernel
theorem dX9_sortOf_47 : decode cX9_sortOf 47 = .ok (.iconst 2, 1) := by decide +kernel
theorem dX9_sortOf_48 : decode cX9_sortOf 48 = .ok (.iadd, 1) := by decide +kernel
theorem dX9_sortOf_49 : decode cX9_sortOf 49 = .ok (.if_icmp .ge 7, 3) := by decide +kernel
theorem dX9_sortOf_52 : decode cX9_sortOf 52 = .ok (.iconst 5, 1) := by decide +kernel
theorem dX9_sortOf_53 : decode cX9_sortOf 53 = .ok (.goto 5, 3) := by decide +kernel
theorem dX9_sortOf_56 : decode cX9_sortOf 56 = .ok (.bipush 6, 2) := by decide +kernel
theorem dX9_sortOf_58 : decode cX9_sortOf 58 = .ok (.ireturn, 1) := by decide +kernel
theorem dX9_numberOf_0 : decode cX9_numberOf 0 = .ok (.aload_n 0, 1) := by decide +kernel
theorem dX9_numberOf_1 : decode cX9_numberOf 1 = .ok (.iload_n 1, 1) := by decide +kernel
theorem dX9_numberOf_2 : decode cX9_numberOf 2 = .ok (.invokevirtual 50, 3) := by decide +kernel
theorem dX9_numberOf_5 : decode cX9_numberOf 5 = .ok (.tableswitch 69 0 5 #[39, 41, 48, 69, 69, 57], 39) := by decide +kernel
theorem dX9_numberOf_44 : decode cX9_numberOf 44 = .ok (.iload_n 1, 1) := by decide +kernel
theorem dX9_numberOf_45 : decode cX9_numberOf 45 = .ok (.ireturn, 1) := by decide +kernel
theorem dX9_numberOf_46 : decode cX9_numberOf 46 = .ok (.iload_n 1, 1) := by decide +kernel
theorem dX9_numberOf_47 : decode cX9_numberOf 47 = .ok (.aload_n 0, 1) := by decide +kernel
theorem dX9_numberOf_48 : decode cX9_numberOf 48 = .ok (.getfield 39, 3) := by decide +kernel
theorem dX9_numberOf_51 : decode cX9_numberOf 51 = .ok (.isub, 1) := by decide +kernel
theorem dX9_numberOf_52 : decode cX9_numberOf 52 = .ok (.ireturn, 1) := by decide +kernel
theorem dX9_numberOf_53 : decode cX9_numberOf 53 = .ok (.iload_n 1, 1) := by decide +kernel
theorem dX9_numberOf_54 : decode cX9_numberOf 54 = .ok (.iconst 2, 1) := by decide +kernel
theorem dX9_numberOf_55 : decode cX9_numberOf 55 = .ok (.aload_n 0, 1) := by decide +kernel
theorem dX9_numberOf_56 : decode cX9_numberOf 56 = .ok (.getfield 39, 3) := by decide +kernel
theorem dX9_numberOf_59 : decode cX9_numberOf 59 = .ok (.imul, 1) := by decide +kernel
theorem dX9_numberOf_60 : decode cX9_numberOf 60 = .ok (.isub, 1) := by decide +kernel
theorem dX9_numberOf_61 : decode cX9_numberOf 61 = .ok (.ireturn, 1) := by decide +kernel
theorem dX9_numberOf_62 : decode cX9_numberOf 62 = .ok (.iload_n 1, 1) := by decide +kernel
theorem dX9_numberOf_63 : decode cX9_numberOf 63 = .ok (.iconst 2, 1) := by decide +kernel
theorem dX9_numberOf_64 : decode cX9_numberOf 64 = .ok (.aload_n 0, 1) := by decide +kernel
theorem dX9_numberOf_65 : decode cX9_numberOf 65 = .ok (.getfield 39, 3) := by decide +kernel
theorem dX9_numberOf_68 : decode cX9_numberOf 68 = .ok (.imul, 1) := by decide +kernel
theorem dX9_numberOf_69 : decode cX9_numberOf 69 = .ok (.isub, 1) := by decide +kernel
theorem dX9_numberOf_70 : decode cX9_numberOf 70 = .ok (.bipush 7, 2) := by decide +kernel
theorem dX9_numberOf_72 : decode cX9_numberOf 72 = .ok (.isub, 1) := by decide +kernel
theorem dX9_numberOf_73 : decode cX9_numberOf 73 = .ok (.ireturn, 1) := by decide +kernel
theorem dX9_numberOf_74 : decode cX9_numberOf 74 = .ok (.iload_n 1, 1) := by decide +kernel
theorem dX9_numberOf_75 : decode cX9_numberOf 75 = .ok (.iconst 2, 1) := by decide +kernel
theorem dX9_numberOf_76 : decode cX9_numberOf 76 = .ok (.aload_n 0, 1) := by decide +kernel
theorem dX9_numberOf_77 : decode cX9_numberOf 77 = .ok (.getfield 39, 3) := by decide +kernel
theorem dX9_numberOf_80 : decode cX9_numberOf 80 = .ok (.imul, 1) := by decide +kernel
theorem dX9_numberOf_81 : decode cX9_numberOf 81 = .ok (.isub, 1) := by decide +kernel
theorem dX9_numberOf_82 : decode cX9_numberOf 82 = .ok (.bipush 7, 2) := by decide +kernel
theorem dX9_numberOf_84 : decode cX9_numberOf 84 = .ok (.isub, 1) := by decide +kernel
theorem dX9_numberOf_85 : decode cX9_numberOf 85 = .ok (.iconst 2, 1) := by decide +kernel
theorem dX9_numberOf_86 : decode cX9_numberOf 86 = .ok (.isub, 1) := by decide +kernel
theorem dX9_numberOf_87 : decode cX9_numberOf 87 = .ok (.ireturn, 1) := by decide +kernel
theorem dX9_isSoIn_0 : decode cX9_isSoIn 0 = .ok (.aload_n 0, 1) := by decide +kernel
theorem dX9_isSoIn_1 : decode cX9_isSoIn 1 = .ok (.iload_n 1, 1) := by decide +kernel
theorem dX9_isSoIn_2 : decode cX9_isSoIn 2 = .ok (.invokevirtual 54, 3) := by decide +kernel
theorem dX9_isSoIn_5 : decode cX9_isSoIn 5 = .ok (.istore_n 3, 1) := by decide +kernel
theorem dX9_isSoIn_6 : decode cX9_isSoIn 6 = .ok (.aload_n 0, 1) := by decide +kernel
theorem dX9_isSoIn_7 : decode cX9_isSoIn 7 = .ok (.iload_n 1, 1) := by decide +kernel
theorem dX9_isSoIn_8 : decode cX9_isSoIn 8 = .ok (.invokevirtual 50, 3) := by decide +kernel
theorem dX9_isSoIn_11 : decode cX9_isSoIn 11 = .ok (.tableswitch 103 0 5 #[37, 53, 69, 103, 103, 86], 37) := by decide +kernel
theorem dX9_isSoIn_48 : decode cX9_isSoIn 48 = .ok (.iload_n 2, 1) := by decide +kernel
theorem dX9_isSoIn_49 : decode cX9_isSoIn 49 = .ok (.bipush 7, 2) := by decide +kernel
theorem dX9_isSoIn_51 : decode cX9_isSoIn 51 = .ok (.iand, 1) := by decide +kernel
theorem dX9_isSoIn_52 : decode cX9_isSoIn 52 = .ok (.iload_n 3, 1) := by decide +kernel
theorem dX9_isSoIn_53 : decode cX9_isSoIn 53 = .ok (.iconst 1, 1) := by decide +kernel
theorem dX9_isSoIn_54 : decode cX9_isSoIn 54 = .ok (.iadd, 1) := by decide +kernel
theorem dX9_isSoIn_55 : decode cX9_isSoIn 55 = .ok (.if_icmp .ne 7, 3) := by decide +kernel
theorem dX9_isSoIn_58 : decode cX9_isSoIn 58 = .ok (.iconst 1, 1) := by decide +kernel
theorem dX9_isSoIn_59 : decode cX9_isSoIn 59 = .ok (.goto 4, 3) := by decide +kernel
theorem dX9_isSoIn_62 : decode cX9_isSoIn 62 = .ok (.iconst 0, 1) := by decide +kernel
theorem dX9_isSoIn_63 : decode cX9_isSoIn 63 = .ok (.ireturn, 1) := by decide +kernel
theorem dX9_isSoIn_64 : decode cX9_isSoIn 64 = .ok (.iload_n 2, 1) := by decide +kernel
theorem dX9_isSoIn_65 : decode cX9_isSoIn 65 = .ok (.iconst 3, 1) := by decide +kernel
theorem dX9_isSoIn_66 : decode cX9_isSoIn 66 = .ok (.iload_n 3, 1) := by decide +kernel
theorem dX9_isSoIn_67 : decode cX9_isSoIn 67 = .ok (.iadd, 1) := by decide +kernel
theorem dX9_isSoIn_68 : decode cX9_isSoIn 68 = .ok (.ishr, 1) := by decide +kernel
theorem dX9_isSoIn_69 : decode cX9_isSoIn 69 = .ok (.iconst 1, 1) := by decide +kernel
theorem dX9_isSoIn_70 : decode cX9_isSoIn 70 = .ok (.iand, 1) := by decide +kernel
theorem dX9_isSoIn_71 : decode cX9_isSoIn 71 = .ok (.ifCond .eq 7, 3) := by decide +kernel
theorem dX9_isSoIn_74 : decode cX9_isSoIn 74 = .ok (.iconst 1, 1) := by decide +kernel
theorem dX9_isSoIn_75 : decode cX9_isSoIn 75 = .ok (.goto 4, 3) := by decide +kernel
theorem dX9_isSoIn_78 : decode cX9_isSoIn 78 = .ok (.iconst 0, 1) := by decide +kernel
theorem dX9_isSoIn_79 : decode cX9_isSoIn 79 = .ok (.ireturn, 1) := by decide +kernel
theorem dX9_isSoIn_80 : decode cX9_isSoIn 80 = .ok (.iload_n 2, 1) := by decide +kernel
theorem dX9_isSoIn_81 : decode cX9_isSoIn 81 = .ok (.bipush 6, 2) := by decide +kernel
theorem dX9_isSoIn_83 : decode cX9_isSoIn 83 = .ok (.ishr, 1) := by decide +kernel
theorem dX9_isSoIn_84 : decode cX9_isSoIn 84 = .ok (.bipush 7, 2) := by decide +kernel
theorem dX9_isSoIn_86 : decode cX9_isSoIn 86 = .ok (.iand, 1) := by decide +kernel
theorem dX9_isSoIn_87 : decode cX9_isSoIn 87 = .ok (.iload_n 3, 1) := by decide +kernel
theorem dX9_isSoIn_88 : decode cX9_isSoIn 88 = .ok (.if_icmp .ne 7, 3) := by decide +kernel
theorem dX9_isSoIn_91 : decode cX9_isSoIn 91 = .ok (.iconst 1, 1) := by decide +kernel
theorem dX9_isSoIn_92 : decode cX9_isSoIn 92 = .ok (.goto 4, 3) := by decide +kernel
theorem dX9_isSoIn_95 : decode cX9_isSoIn 95 = .ok (.iconst 0, 1) := by decide +kernel
theorem dX9_isSoIn_96 : decode cX9_isSoIn 96 = .ok (.ireturn, 1) := by decide +kernel
theorem dX9_isSoIn_97 : decode cX9_isSoIn 97 = .ok (.iload_n 2, 1) := by decide +kernel
theorem dX9_isSoIn_98 : decode cX9_isSoIn 98 = .ok (.bipush 9, 2) := by decide +kernel
theorem dX9_isSoIn_100 : decode cX9_isSoIn 100 = .ok (.iload_n 3, 1) := by decide +kernel
theorem dX9_isSoIn_101 : decode cX9_isSoIn 101 = .ok (.iadd, 1) := by decide +kernel
theorem dX9_isSoIn_102 : decode cX9_isSoIn 102 = .ok (.ishr, 1) := by decide +kernel
theorem dX9_isSoIn_103 : decode cX9_isSoIn 103 = .ok (.iconst 1, 1) := by decide +kernel
theorem dX9_isSoIn_104 : decode cX9_isSoIn 104 = .ok (.iand, 1) := by decide +kernel
theorem dX9_isSoIn_105 : decode cX9_isSoIn 105 = .ok (.ifCond .eq 7, 3) := by decide +kernel
theorem dX9_isSoIn_108 : decode cX9_isSoIn 108 = .ok (.iconst 1, 1) := by decide +kernel
theorem dX9_isSoIn_109 : decode cX9_isSoIn 109 = .ok (.goto 4, 3) := by decide +kernel
theorem dX9_isSoIn_112 : decode cX9_isSoIn 112 = .ok (.iconst 0, 1) := by decide +kernel
theorem dX9_isSoIn_113 : decode cX9_isSoIn 113 = .ok (.ireturn, 1) := by decide +kernel
theorem dX9_isSoIn_114 : decode cX9_isSoIn 114 = .ok (.iload_n 2, 1) := by decide +kernel
theorem dX9_isSoIn_115 : decode cX9_isSoIn 115 = .ok (.bipush 9, 2) := by decide +kernel
theorem dX9_isSoIn_117 : decode cX9_isSoIn 117 = .ok (.iload_n 3, 1) := by decide +kernel
theorem dX9_isSoIn_118 : decode cX9_isSoIn 118 = .ok (.iadd, 1) := by decide +kernel
theorem dX9_isSoIn_119 : decode cX9_isSoIn 119 = .ok (.ishr, 1) := by decide +kernel
theorem dX9_isSoIn_120 : decode cX9_isSoIn 120 = .ok (.iconst 1, 1) := by decide +kernel
theorem dX9_isSoIn_121 : decode cX9_isSoIn 121 = .ok (.iand, 1) := by decide +kernel
theorem dX9_isSoIn_122 : decode cX9_isSoIn 122 = .ok (.ifCond .ne 7, 3) := by decide +kernel
theorem dX9_isSoIn_125 : decode cX9_isSoIn 125 = .ok (.iconst 1, 1) := by decide +kernel
theorem dX9_isSoIn_126 : decode cX9_isSoIn 126 = .ok (.goto 4, 3) := by decide +kernel
theorem dX9_isSoIn_129 : decode cX9_isSoIn 129 = .ok (.iconst 0, 1) := by decide +kernel
theorem dX9_isSoIn_130 : decode cX9_isSoIn 130 = .ok (.ireturn, 1) := by decide +kernel
theorem dX9_weigh_0 : decode cX9_weigh 0 = .ok (.aload_n 0, 1) := by decide +kernel
theorem dX9_weigh_1 : decode cX9_weigh 1 = .ok (.iload_n 1, 1) := by decide +kernel
theorem dX9_weigh_2 : decode cX9_weigh 2 = .ok (.putfield 39, 3) := by decide +kernel
theorem dX9_weigh_5 : decode cX9_weigh 5 = .ok (.iconst 0, 1) := by decide +kernel
theorem dX9_weigh_6 : decode cX9_weigh 6 = .ok (.istore_n 2, 1) := by decide +kernel
theorem dX9_weigh_7 : decode cX9_weigh 7 = .ok (.iload_n 2, 1) := by decide +kernel
theorem dX9_weigh_8 : decode cX9_weigh 8 = .ok (.aload_n 0, 1) := by decide +kernel
theorem dX9_weigh_9 : decode cX9_weigh 9 = .ok (.invokevirtual 57, 3) := by decide +kernel
theorem dX9_weigh_12 : decode cX9_weigh 12 = .ok (.if_icmp .ge 74, 3) := by decide +kernel
theorem dX9_weigh_15 : decode cX9_weigh 15 = .ok (.iload_n 2, 1) := by decide +kernel
theorem dX9_weigh_16 : decode cX9_weigh 16 = .ok (.bipush 17, 2) := by decide +kernel
theorem dX9_weigh_18 : decode cX9_weigh 18 = .ok (.if_icmp .ge 68, 3) := by decide +kernel
theorem dX9_weigh_21 : decode cX9_weigh 21 = .ok (.aload_n 0, 1) := by decide +kernel
theorem dX9_weigh_22 : decode cX9_weigh 22 = .ok (.getfield 20, 3) := by decide +kernel
theorem dX9_weigh_25 : decode cX9_weigh 25 = .ok (.iload_n 2, 1) := by decide +kernel
theorem dX9_weigh_26 : decode cX9_weigh 26 = .ok (.iconst 0, 1) := by decide +kernel
theorem dX9_weigh_27 : decode cX9_weigh 27 = .ok (.iastore, 1) := by decide +kernel
theorem dX9_weigh_28 : decode cX9_weigh 28 = .ok (.iconst 0, 1) := by decide +kernel
theorem dX9_weigh_29 : decode cX9_weigh 29 = .ok (.istore_n 3, 1) := by decide +kernel
theorem dX9_weigh_30 : decode cX9_weigh 30 = .ok (.iload_n 3, 1) := by decide +kernel
theorem dX9_weigh_31 : decode cX9_weigh 31 = .ok (.bipush 8, 2) := by decide +kernel
theorem dX9_weigh_33 : decode cX9_weigh 33 = .ok (.if_icmp .ge 47, 3) := by decide +kernel
theorem dX9_weigh_36 : decode cX9_weigh 36 = .ok (.iload_n 3, 1) := by decide +kernel
theorem dX9_weigh_37 : decode cX9_weigh 37 = .ok (.aload_n 0, 1) := by decide +kernel
theorem dX9_weigh_38 : decode cX9_weigh 38 = .ok (.getfield 16, 3) := by decide +kernel
theorem dX9_weigh_41 : decode cX9_weigh 41 = .ok (.invokevirtual 32, 3) := by decide +kernel
theorem dX9_weigh_44 : decode cX9_weigh 44 = .ok (.if_icmp .ge 36, 3) := by decide +kernel
theorem dX9_weigh_47 : decode cX9_weigh 47 = .ok (.aload_n 0, 1) := by decide +kernel
theorem dX9_weigh_48 : decode cX9_weigh 48 = .ok (.getfield 20, 3) := by decide +kernel
theorem dX9_weigh_51 : decode cX9_weigh 51 = .ok (.iload_n 2, 1) := by decide +kernel
theorem dX9_weigh_52 : decode cX9_weigh 52 = .ok (.dup2, 1) := by decide +kernel
theorem dX9_weigh_53 : decode cX9_weigh 53 = .ok (.iaload, 1) := by decide +kernel
theorem dX9_weigh_54 : decode cX9_weigh 54 = .ok (.aload_n 0, 1) := by decide +kernel
theorem dX9_weigh_55 : decode cX9_weigh 55 = .ok (.iload_n 2, 1) := by decide +kernel
theorem dX9_weigh_56 : decode cX9_weigh 56 = .ok (.aload_n 0, 1) := by decide +kernel
theorem dX9_weigh_57 : decode cX9_weigh 57 = .ok (.getfield 16, 3) := by decide +kernel
theorem dX9_weigh_60 : decode cX9_weigh 60 = .ok (.iload_n 3, 1) := by decide +kernel
theorem dX9_weigh_61 : decode cX9_weigh 61 = .ok (.invokevirtual 60, 3) := by decide +kernel
theorem dX9_weigh_64 : decode cX9_weigh 64 = .ok (.invokevirtual 63, 3) := by decide +kernel
theorem dX9_weigh_67 : decode cX9_weigh 67 = .ok (.invokestatic 67, 3) := by decide +kernel
theorem dX9_weigh_70 : decode cX9_weigh 70 = .ok (.iload_n 3, 1) := by decide +kernel
theorem dX9_weigh_71 : decode cX9_weigh 71 = .ok (.ishl, 1) := by decide +kernel
theorem dX9_weigh_72 : decode cX9_weigh 72 = .ok (.ior, 1) := by decide +kernel
theorem dX9_weigh_73 : decode cX9_weigh 73 = .ok (.iastore, 1) := by decide +kernel
theorem dX9_weigh_74 : decode cX9_weigh 74 = .ok (.iinc 3 1, 3) := by decide +kernel
theorem dX9_weigh_77 : decode cX9_weigh 77 = .ok (.goto (-47), 3) := by decide +kernel
theorem dX9_weigh_80 : decode cX9_weigh 80 = .ok (.iinc 2 1, 3) := by decide +kernel
theorem dX9_weigh_83 : decode cX9_weigh 83 = .ok (.goto (-76), 3) := by decide +kernel
theorem dX9_weigh_86 : decode cX9_weigh 86 = .ok (.return_, 1) := by decide +kernel
theorem dX9_fits_0 : decode cX9_fits 0 = .ok (.iload_n 1, 1) := by decide +kernel
theorem dX9_fits_1 : decode cX9_fits 1 = .ok (.ifCond .lt 19, 3) := by decide +kernel
theorem dX9_fits_4 : decode cX9_fits 4 = .ok (.iload_n 1, 1) := by decide +kernel
theorem dX9_fits_5 : decode cX9_fits 5 = .ok (.bipush 17, 2) := by decide +kernel
theorem dX9_fits_7 : decode cX9_fits 7 = .ok (.if_icmp .ge 13, 3) := by decide +kernel
theorem dX9_fits_10 : decode cX9_fits 10 = .ok (.iload_n 2, 1) := by decide +kernel
theorem dX9_fits_11 : decode cX9_fits 11 = .ok (.ifCond .lt 9, 3) := by decide +kernel
theorem dX9_fits_14 : decode cX9_fits 14 = .ok (.iload_n 2, 1) := by decide +kernel
theorem dX9_fits_15 : decode cX9_fits 15 = .ok (.bipush 17, 2) := by decide +kernel
theorem dX9_fits_17 : decode cX9_fits 17 = .ok (.if_icmp .lt 5, 3) := by decide +kernel
theorem dX9_fits_20 : decode cX9_fits 20 = .ok (.iconst 0, 1) := by decide +kernel
theorem dX9_fits_21 : decode cX9_fits 21 = .ok (.ireturn, 1) := by decide +kernel
theorem dX9_fits_22 : decode cX9_fits 22 = .ok (.aload_n 0, 1) := by decide +kernel
theorem dX9_fits_23 : decode cX9_fits 23 = .ok (.getfield 20, 3) := by decide +kernel
theorem dX9_fits_26 : decode cX9_fits 26 = .ok (.iload_n 1, 1) := by decide +kernel
theorem dX9_fits_27 : decode cX9_fits 27 = .ok (.iaload, 1) := by decide +kernel
theorem dX9_fits_28 : decode cX9_fits 28 = .ok (.aload_n 0, 1) := by decide +kernel
theorem dX9_fits_29 : decode cX9_fits 29 = .ok (.getfield 20, 3) := by decide +kernel
theorem dX9_fits_32 : decode cX9_fits 32 = .ok (.iload_n 2, 1) := by decide +kernel
theorem dX9_fits_33 : decode cX9_fits 33 = .ok (.iaload, 1) := by decide +kernel
theorem dX9_fits_34 : decode cX9_fits 34 = .ok (.iand, 1) := by decide +kernel
theorem dX9_fits_35 : decode cX9_fits 35 = .ok (.aload_n 0, 1) := by decide +kernel
theorem dX9_fits_36 : decode cX9_fits 36 = .ok (.getfield 28, 3) := by decide +kernel
theorem dX9_fits_39 : decode cX9_fits 39 = .ok (.if_icmp .ne 7, 3) := by decide +kernel
theorem dX9_fits_42 : decode cX9_fits 42 = .ok (.iconst 1, 1) := by decide +kernel
theorem dX9_fits_43 : decode cX9_fits 43 = .ok (.goto 4, 3) := by decide +kernel
theorem dX9_fits_46 : decode cX9_fits 46 = .ok (.iconst 0, 1) := by decide +kernel
theorem dX9_fits_47 : decode cX9_fits 47 = .ok (.ireturn, 1) := by decide +kernel
theorem dX9_howMany_0 : decode cX9_howMany 0 = .ok (.iconst 0, 1) := by decide +kernel
theorem dX9_howMany_1 : decode cX9_howMany 1 = .ok (.istore_n 1, 1) := by decide +kernel
theorem dX9_howMany_2 : decode cX9_howMany 2 = .ok (.iconst 0, 1) := by decide +kernel
theorem dX9_howMany_3 : decode cX9_howMany 3 = .ok (.istore_n 2, 1) := by decide +kernel
theorem dX9_howMany_4 : decode cX9_howMany 4 = .ok (.iload_n 2, 1) := by decide +kernel
theorem dX9_howMany_5 : decode cX9_howMany 5 = .ok (.aload_n 0, 1) := by decide +kernel
theorem dX9_howMany_6 : decode cX9_howMany 6 = .ok (.invokevirtual 57, 3) := by decide +kernel
theorem dX9_howMany_9 : decode cX9_howMany 9 = .ok (.if_icmp .ge 37, 3) := by decide +kernel
theorem dX9_howMany_12 : decode cX9_howMany 12 = .ok (.iload_n 2, 1) := by decide +kernel
theorem dX9_howMany_13 : decode cX9_howMany 13 = .ok (.istore_n 3, 1) := by decide +kernel
theorem dX9_howMany_14 : decode cX9_howMany 14 = .ok (.iload_n 3, 1) := by decide +kernel
theorem dX9_howMany_15 : decode cX9_howMany 15 = .ok (.aload_n 0, 1) := by decide +kernel
theorem dX9_howMany_16 : decode cX9_howMany 16 = .ok (.invokevirtual 57, 3) := by decide +kernel
theorem dX9_howMany_19 : decode cX9_howMany 19 = .ok (.if_icmp .ge 21, 3) := by decide +kernel
theorem dX9_howMany_22 : decode cX9_howMany 22 = .ok (.iload_n 1, 1) := by decide +kernel
theorem dX9_howMany_23 : decode cX9_howMany 23 = .ok (.aload_n 0, 1) := by decide +kernel
theorem dX9_howMany_24 : decode cX9_howMany 24 = .ok (.iload_n 2, 1) := by decide +kernel
theorem dX9_howMany_25 : decode cX9_howMany 25 = .ok (.iload_n 3, 1) := by decide +kernel
theorem dX9_howMany_26 : decode cX9_howMany 26 = .ok (.invokevirtual 71, 3) := by decide +kernel
theorem dX9_howMany_29 : decode cX9_howMany 29 = .ok (.invokestatic 67, 3) := by decide +kernel
theorem dX9_howMany_32 : decode cX9_howMany 32 = .ok (.iadd, 1) := by decide +kernel
theorem dX9_howMany_33 : decode cX9_howMany 33 = .ok (.istore_n 1, 1) := by decide +kernel
theorem dX9_howMany_34 : decode cX9_howMany 34 = .ok (.iinc 3 1, 3) := by decide +kernel
theorem dX9_howMany_37 : decode cX9_howMany 37 = .ok (.goto (-23), 3) := by decide +kernel
theorem dX9_howMany_40 : decode cX9_howMany 40 = .ok (.iinc 2 1, 3) := by decide +kernel
theorem dX9_howMany_43 : decode cX9_howMany 43 = .ok (.goto (-39), 3) := by decide +kernel
theorem dX9_howMany_46 : decode cX9_howMany 46 = .ok (.iload_n 1, 1) := by decide +kernel
theorem dX9_howMany_47 : decode cX9_howMany 47 = .ok (.ireturn, 1) := by decide +kernel
theorem dX9_partnerOf_0 : decode cX9_partnerOf 0 = .ok (.iload_n 1, 1) := by decide +kernel
theorem dX9_partnerOf_1 : decode cX9_partnerOf 1 = .ok (.iconst 1, 1) := by decide +kernel
theorem dX9_partnerOf_2 : decode cX9_partnerOf 2 = .ok (.iadd, 1) := by decide +kernel
theorem dX9_partnerOf_3 : decode cX9_partnerOf 3 = .ok (.istore_n 2, 1) := by decide +kernel
theorem dX9_partnerOf_4 : decode cX9_partnerOf 4 = .ok (.iload_n 2, 1) := by decide +kernel
theorem dX9_partnerOf_5 : decode cX9_partnerOf 5 = .ok (.aload_n 0, 1) := by decide +kernel
theorem dX9_partnerOf_6 : decode cX9_partnerOf 6 = .ok (.invokevirtual 57, 3) := by decide +kernel
theorem dX9_partnerOf_9 : decode cX9_partnerOf 9 = .ok (.if_icmp .ge 20, 3) := by decide +kernel
theorem dX9_partnerOf_12 : decode cX9_partnerOf 12 = .ok (.aload_n 0, 1) := by decide +kernel
theorem dX9_partnerOf_13 : decode cX9_partnerOf 13 = .ok (.iload_n 1, 1) := by decide +kernel
theorem dX9_partnerOf_14 : decode cX9_partnerOf 14 = .ok (.iload_n 2, 1) := by decide +kernel
theorem dX9_partnerOf_15 : decode cX9_partnerOf 15 = .ok (.invokevirtual 71, 3) := by decide +kernel
theorem dX9_partnerOf_18 : decode cX9_partnerOf 18 = .ok (.ifCond .eq 5, 3) := by decide +kernel
theorem dX9_partnerOf_21 : decode cX9_partnerOf 21 = .ok (.iload_n 2, 1) := by decide +kernel
theorem dX9_partnerOf_22 : decode cX9_partnerOf 22 = .ok (.ireturn, 1) := by decide +kernel
theorem dX9_partnerOf_23 : decode cX9_partnerOf 23 = .ok (.iinc 2 1, 3) := by decide +kernel
theorem dX9_partnerOf_26 : decode cX9_partnerOf 26 = .ok (.goto (-22), 3) := by decide +kernel
theorem dX9_partnerOf_29 : decode cX9_partnerOf 29 = .ok (.iconst (-1), 1) := by decide +kernel
theorem dX9_partnerOf_30 : decode cX9_partnerOf 30 = .ok (.ireturn, 1) := by decide +kernel
theorem dX9_firstTerm_0 : decode cX9_firstTerm 0 = .ok (.iconst 0, 1) := by decide +kernel
theorem dX9_firstTerm_1 : decode cX9_firstTerm 1 = .ok (.istore_n 1, 1) := by decide +kernel
theorem dX9_firstTerm_2 : decode cX9_firstTerm 2 = .ok (.iload_n 1, 1) := by decide +kernel
theorem dX9_firstTerm_3 : decode cX9_firstTerm 3 = .ok (.aload_n 0, 1) := by decide +kernel
theorem dX9_firstTerm_4 : decode cX9_firstTerm 4 = .ok (.invokevirtual 57, 3) := by decide +kernel
theorem dX9_firstTerm_7 : decode cX9_firstTerm 7 = .ok (.if_icmp .ge 20, 3) := by decide +kernel
theorem dX9_firstTerm_10 : decode cX9_firstTerm 10 = .ok (.aload_n 0, 1) := by decide +kernel
theorem dX9_firstTerm_11 : decode cX9_firstTerm 11 = .ok (.iload_n 1, 1) := by decide +kernel
theorem dX9_firstTerm_12 : decode cX9_firstTerm 12 = .ok (.iload_n 1, 1) := by decide +kernel
theorem dX9_firstTerm_13 : decode cX9_firstTerm 13 = .ok (.invokevirtual 71, 3) := by decide +kernel
theorem dX9_firstTerm_16 : decode cX9_firstTerm 16 = .ok (.ifCond .eq 5, 3) := by decide +kernel
theorem dX9_firstTerm_19 : decode cX9_firstTerm 19 = .ok (.iload_n 1, 1) := by decide +kernel
theorem dX9_firstTerm_20 : decode cX9_firstTerm 20 = .ok (.ireturn, 1) := by decide +kernel
theorem dX9_firstTerm_21 : decode cX9_firstTerm 21 = .ok (.iinc 1 1, 3) := by decide +kernel
theorem dX9_firstTerm_24 : decode cX9_firstTerm 24 = .ok (.goto (-22), 3) := by decide +kernel
theorem dX9_firstTerm_27 : decode cX9_firstTerm 27 = .ok (.iconst 0, 1) := by decide +kernel
theorem dX9_firstTerm_28 : decode cX9_firstTerm 28 = .ok (.istore_n 1, 1) := by decide +kernel
theorem dX9_firstTerm_29 : decode cX9_firstTerm 29 = .ok (.iload_n 1, 1) := by decide +kernel
theorem dX9_firstTerm_30 : decode cX9_firstTerm 30 = .ok (.aload_n 0, 1) := by decide +kernel
theorem dX9_firstTerm_31 : decode cX9_firstTerm 31 = .ok (.invokevirtual 57, 3) := by decide +kernel
theorem dX9_firstTerm_34 : decode cX9_firstTerm 34 = .ok (.if_icmp .ge 20, 3) := by decide +kernel
theorem dX9_firstTerm_37 : decode cX9_firstTerm 37 = .ok (.aload_n 0, 1) := by decide +kernel
theorem dX9_firstTerm_38 : decode cX9_firstTerm 38 = .ok (.iload_n 1, 1) := by decide +kernel
theorem dX9_firstTerm_39 : decode cX9_firstTerm 39 = .ok (.invokevirtual 74, 3) := by decide +kernel
theorem dX9_firstTerm_42 : decode cX9_firstTerm 42 = .ok (.iconst (-1), 1) := by decide +kernel
theorem dX9_firstTerm_43 : decode cX9_firstTerm 43 = .ok (.if_icmp .eq 5, 3) := by decide +kernel
theorem dX9_firstTerm_46 : decode cX9_firstTerm 46 = .ok (.iload_n 1, 1) := by decide +kernel
theorem dX9_firstTerm_47 : decode cX9_firstTerm 47 = .ok (.ireturn, 1) := by decide +kernel
theorem dX9_firstTerm_48 : decode cX9_firstTerm 48 = .ok (.iinc 1 1, 3) := by decide +kernel
theorem dX9_firstTerm_51 : decode cX9_firstTerm 51 = .ok (.goto (-22), 3) := by decide +kernel
theorem dX9_firstTerm_54 : decode cX9_firstTerm 54 = .ok (.iconst (-1), 1) := by decide +kernel
theorem dX9_firstTerm_55 : decode cX9_firstTerm 55 = .ok (.ireturn, 1) := by decide +kernel
theorem dX9_secondTerm_0 : decode cX9_secondTerm 0 = .ok (.aload_n 0, 1) := by decide +kernel
theorem dX9_secondTerm_1 : decode cX9_secondTerm 1 = .ok (.iload_n 1, 1) := by decide +kernel
theorem dX9_secondTerm_2 : decode cX9_secondTerm 2 = .ok (.iload_n 1, 1) := by decide +kernel
theorem dX9_secondTerm_3 : decode cX9_secondTerm 3 = .ok (.invokevirtual 71, 3) := by decide +kernel
theorem dX9_secondTerm_6 : decode cX9_secondTerm 6 = .ok (.ifCond .eq 7, 3) := by decide +kernel
theorem dX9_secondTerm_9 : decode cX9_secondTerm 9 = .ok (.iconst (-1), 1) := by decide +kernel
theorem dX9_secondTerm_10 : decode cX9_secondTerm 10 = .ok (.goto 8, 3) := by decide +kernel
theorem dX9_secondTerm_13 : decode cX9_secondTerm 13 = .ok (.aload_n 0, 1) := by decide +kernel
theorem dX9_secondTerm_14 : decode cX9_secondTerm 14 = .ok (.iload_n 1, 1) := by decide +kernel
theorem dX9_secondTerm_15 : decode cX9_secondTerm 15 = .ok (.invokevirtual 74, 3) := by decide +kernel
theorem dX9_secondTerm_18 : decode cX9_secondTerm 18 = .ok (.ireturn, 1) := by decide +kernel
theorem dX10_mayBe_0 : decode cX10_mayBe 0 = .ok (.iload_n 1, 1) := by decide +kernel
theorem dX10_mayBe_1 : decode cX10_mayBe 1 = .ok (.ifCond .lt 8, 3) := by decide +kernel
theorem dX10_mayBe_4 : decode cX10_mayBe 4 = .ok (.iload_n 1, 1) := by decide +kernel
theorem dX10_mayBe_5 : decode cX10_mayBe 5 = .ok (.iconst 4, 1) := by decide +kernel
theorem dX10_mayBe_6 : decode cX10_mayBe 6 = .ok (.if_icmp .le 6, 3) := by decide +kernel
theorem dX10_mayBe_9 : decode cX10_mayBe 9 = .ok (.bipush (-3), 2) := by decide +kernel
theorem dX10_mayBe_11 : decode cX10_mayBe 11 = .ok (.ireturn, 1) := by decide +kernel
theorem dX10_mayBe_12 : decode cX10_mayBe 12 = .ok (.aload_n 0, 1) := by decide +kernel
theorem dX10_mayBe_13 : decode cX10_mayBe 13 = .ok (.getfield 56, 3) := by decide +kernel
theorem dX10_mayBe_16 : decode cX10_mayBe 16 = .ok (.aload_n 0, 1) := by decide +kernel
theorem dX10_mayBe_17 : decode cX10_mayBe 17 = .ok (.getfield 21, 3) := by decide +kernel
theorem dX10_mayBe_20 : decode cX10_mayBe 20 = .ok (.invokevirtual 296, 3) := by decide +kernel
theorem dX10_mayBe_23 : decode cX10_mayBe 23 = .ok (.invokevirtual 299, 3) := by decide +kernel
theorem dX10_mayBe_26 : decode cX10_mayBe 26 = .ok (.iload_n 1, 1) := by decide +kernel
theorem dX10_mayBe_27 : decode cX10_mayBe 27 = .ok (.ifCond .ne 11, 3) := by decide +kernel
theorem dX10_mayBe_30 : decode cX10_mayBe 30 = .ok (.aload_n 0, 1) := by decide +kernel
theorem dX10_mayBe_31 : decode cX10_mayBe 31 = .ok (.getfield 56, 3) := by decide +kernel
theorem dX10_mayBe_34 : decode cX10_mayBe 34 = .ok (.invokevirtual 302, 3) := by decide +kernel
theorem dX10_mayBe_37 : decode cX10_mayBe 37 = .ok (.ireturn, 1) := by decide +kernel
theorem dX10_mayBe_38 : decode cX10_mayBe 38 = .ok (.aload_n 0, 1) := by decide +kernel
theorem dX10_mayBe_39 : decode cX10_mayBe 39 = .ok (.getfield 56, 3) := by decide +kernel
theorem dX10_mayBe_42 : decode cX10_mayBe 42 = .ok (.invokevirtual 305, 3) := by decide +kernel
theorem dX10_mayBe_45 : decode cX10_mayBe 45 = .ok (.istore_n 2, 1) := by decide +kernel
theorem dX10_mayBe_46 : decode cX10_mayBe 46 = .ok (.iload_n 2, 1) := by decide +kernel
theorem dX10_mayBe_47 : decode cX10_mayBe 47 = .ok (.iconst (-1), 1) := by decide +kernel
theorem dX10_mayBe_48 : decode cX10_mayBe 48 = .ok (.if_icmp .ne 6, 3) := by decide +kernel
theorem dX10_mayBe_51 : decode cX10_mayBe 51 = .ok (.bipush (-4), 2) := by decide +kernel
theorem dX10_mayBe_53 : decode cX10_mayBe 53 = .ok (.ireturn, 1) := by decide +kernel
theorem dX10_mayBe_54 : decode cX10_mayBe 54 = .ok (.aload_n 0, 1) := by decide +kernel
theorem dX10_mayBe_55 : decode cX10_mayBe 55 = .ok (.getfield 56, 3) := by decide +kernel
theorem dX10_mayBe_58 : decode cX10_mayBe 58 = .ok (.iload_n 2, 1) := by decide +kernel
theorem dX10_mayBe_59 : decode cX10_mayBe 59 = .ok (.invokevirtual 308, 3) := by decide +kernel
theorem dX10_mayBe_62 : decode cX10_mayBe 62 = .ok (.istore_n 3, 1) := by decide +kernel
theorem dX10_mayBe_63 : decode cX10_mayBe 63 = .ok (.iload_n 1, 1) := by decide +kernel
theorem dX10_mayBe_64 : decode cX10_mayBe 64 = .ok (.tableswitch 64 1 3 #[28, 37, 46], 28) := by decide +kernel
theorem dX10_mayBe_92 : decode cX10_mayBe 92 = .ok (.aload_n 0, 1) := by decide +kernel
theorem dX10_mayBe_93 : decode cX10_mayBe 93 = .ok (.getfield 56, 3) := by decide +kernel
theorem dX10_mayBe_96 : decode cX10_mayBe 96 = .ok (.iload_n 2, 1) := by decide +kernel
theorem dX10_mayBe_97 : decode cX10_mayBe 97 = .ok (.invokevirtual 311, 3) := by decide +kernel
theorem dX10_mayBe_100 : decode cX10_mayBe 100 = .ok (.ireturn, 1) := by decide +kernel
theorem dX10_mayBe_101 : decode cX10_mayBe 101 = .ok (.aload_n 0, 1) := by decide +kernel
theorem dX10_mayBe_102 : decode cX10_mayBe 102 = .ok (.getfield 56, 3) := by decide +kernel
theorem dX10_mayBe_105 : decode cX10_mayBe 105 = .ok (.iload_n 2, 1) := by decide +kernel
theorem dX10_mayBe_106 : decode cX10_mayBe 106 = .ok (.invokevirtual 312, 3) := by decide +kernel
theorem dX10_mayBe_109 : decode cX10_mayBe 109 = .ok (.ireturn, 1) := by decide +kernel
theorem dX10_mayBe_110 : decode cX10_mayBe 110 = .ok (.iload_n 3, 1) := by decide +kernel
theorem dX10_mayBe_111 : decode cX10_mayBe 111 = .ok (.iconst (-1), 1) := by decide +kernel
theorem dX10_mayBe_112 : decode cX10_mayBe 112 = .ok (.if_icmp .ne 7, 3) := by decide +kernel
theorem dX10_mayBe_115 : decode cX10_mayBe 115 = .ok (.iconst (-1), 1) := by decide +kernel
theorem dX10_mayBe_116 : decode cX10_mayBe 116 = .ok (.goto 11, 3) := by decide +kernel
theorem dX10_mayBe_119 : decode cX10_mayBe 119 = .ok (.aload_n 0, 1) := by decide +kernel
theorem dX10_mayBe_120 : decode cX10_mayBe 120 = .ok (.getfield 56, 3) := by decide +kernel
theorem dX10_mayBe_123 : decode cX10_mayBe 123 = .ok (.iload_n 3, 1) := by decide +kernel
theorem dX10_mayBe_124 : decode cX10_mayBe 124 = .ok (.invokevirtual 311, 3) := by decide +kernel
theorem dX10_mayBe_127 : decode cX10_mayBe 127 = .ok (.ireturn, 1) := by decide +kernel
theorem dX10_mayBe_128 : decode cX10_mayBe 128 = .ok (.iload_n 3, 1) := by decide +kernel
theorem dX10_mayBe_129 : decode cX10_mayBe 129 = .ok (.iconst (-1), 1) := by decide +kernel
theorem dX10_mayBe_130 : decode cX10_mayBe 130 = .ok (.if_icmp .ne 7, 3) := by decide +kernel
theorem dX10_mayBe_133 : decode cX10_mayBe 133 = .ok (.iconst (-1), 1) := by decide +kernel
theorem dX10_mayBe_134 : decode cX10_mayBe 134 = .ok (.goto 11, 3) := by decide +kernel
theorem dX10_mayBe_137 : decode cX10_mayBe 137 = .ok (.aload_n 0, 1) := by decide +kernel
theorem dX10_mayBe_138 : decode cX10_mayBe 138 = .ok (.getfield 56, 3) := by decide +kernel
theorem dX10_mayBe_141 : decode cX10_mayBe 141 = .ok (.iload_n 3, 1) := by decide +kernel
theorem dX10_mayBe_142 : decode cX10_mayBe 142 = .ok (.invokevirtual 312, 3) := by decide +kernel
theorem dX10_mayBe_145 : decode cX10_mayBe 145 = .ok (.ireturn, 1) := by decide +kernel
theorem dX9_liftedBy_0 : decode cX9_liftedBy 0 = .ok (.iconst 0, 1) := by decide +kernel
theorem dX9_liftedBy_1 : decode cX9_liftedBy 1 = .ok (.istore_n 2, 1) := by decide +kernel
theorem dX9_liftedBy_2 : decode cX9_liftedBy 2 = .ok (.iconst 0, 1) := by decide +kernel
theorem dX9_liftedBy_3 : decode cX9_liftedBy 3 = .ok (.istore_n 3, 1) := by decide +kernel
theorem dX9_liftedBy_4 : decode cX9_liftedBy 4 = .ok (.iload_n 3, 1) := by decide +kernel
theorem dX9_liftedBy_5 : decode cX9_liftedBy 5 = .ok (.aload_n 0, 1) := by decide +kernel
theorem dX9_liftedBy_6 : decode cX9_liftedBy 6 = .ok (.invokevirtual 57, 3) := by decide +kernel
theorem dX9_liftedBy_9 : decode cX9_liftedBy 9 = .ok (.if_icmp .ge 67, 3) := by decide +kernel
theorem dX9_liftedBy_12 : decode cX9_liftedBy 12 = .ok (.iload_n 3, 1) := by decide +kernel
theorem dX9_liftedBy_13 : decode cX9_liftedBy 13 = .ok (.istore 4, 2) := by decide +kernel
theorem dX9_liftedBy_15 : decode cX9_liftedBy 15 = .ok (.iload 4, 2) := by decide +kernel
theorem dX9_liftedBy_17 : decode cX9_liftedBy 17 = .ok (.aload_n 0, 1) := by decide +kernel
theorem dX9_liftedBy_18 : decode cX9_liftedBy 18 = .ok (.invokevirtual 57, 3) := by decide +kernel
theorem dX9_liftedBy_21 : decode cX9_liftedBy 21 = .ok (.if_icmp .ge 49, 3) := by decide +kernel
theorem dX9_liftedBy_24 : decode cX9_liftedBy 24 = .ok (.aload_n 0, 1) := by decide +kernel
theorem dX9_liftedBy_25 : decode cX9_liftedBy 25 = .ok (.iload_n 3, 1) := by decide +kernel
theorem dX9_liftedBy_26 : decode cX9_liftedBy 26 = .ok (.iload_n 1, 1) := by decide +kernel
theorem dX9_liftedBy_27 : decode cX9_liftedBy 27 = .ok (.invokevirtual 63, 3) := by decide +kernel
theorem dX9_liftedBy_30 : decode cX9_liftedBy 30 = .ok (.ifCond .eq 40, 3) := by decide +kernel
theorem dX9_liftedBy_33 : decode cX9_liftedBy 33 = .ok (.iload_n 2, 1) := by decide +kernel
theorem dX9_liftedBy_34 : decode cX9_liftedBy 34 = .ok (.aload_n 0, 1) := by decide +kernel
theorem dX9_liftedBy_35 : decode cX9_liftedBy 35 = .ok (.iload_n 3, 1) := by decide +kernel
theorem dX9_liftedBy_36 : decode cX9_liftedBy 36 = .ok (.iload 4, 2) := by decide +kernel
theorem dX9_liftedBy_38 : decode cX9_liftedBy 38 = .ok (.invokevirtual 71, 3) := by decide +kernel
theorem dX9_liftedBy_41 : decode cX9_liftedBy 41 = .ok (.ifCond .eq 17, 3) := by decide +kernel
theorem dX9_liftedBy_44 : decode cX9_liftedBy 44 = .ok (.aload_n 0, 1) := by decide +kernel
theorem dX9_liftedBy_45 : decode cX9_liftedBy 45 = .ok (.iload 4, 2) := by decide +kernel
theorem dX9_liftedBy_47 : decode cX9_liftedBy 47 = .ok (.iload_n 1, 1) := by decide +kernel
theorem dX9_liftedBy_48 : decode cX9_liftedBy 48 = .ok (.invokevirtual 63, 3) := by decide +kernel
theorem dX9_liftedBy_51 : decode cX9_liftedBy 51 = .ok (.ifCond .eq 7, 3) := by decide +kernel
theorem dX9_liftedBy_54 : decode cX9_liftedBy 54 = .ok (.iconst 1, 1) := by decide +kernel
theorem dX9_liftedBy_55 : decode cX9_liftedBy 55 = .ok (.goto 4, 3) := by decide +kernel
theorem dX9_liftedBy_58 : decode cX9_liftedBy 58 = .ok (.iconst 0, 1) := by decide +kernel
theorem dX9_liftedBy_59 : decode cX9_liftedBy 59 = .ok (.invokestatic 67, 3) := by decide +kernel
theorem dX9_liftedBy_62 : decode cX9_liftedBy 62 = .ok (.iadd, 1) := by decide +kernel
theorem dX9_liftedBy_63 : decode cX9_liftedBy 63 = .ok (.istore_n 2, 1) := by decide +kernel
theorem dX9_liftedBy_64 : decode cX9_liftedBy 64 = .ok (.iinc 4 1, 3) := by decide +kernel
theorem dX9_liftedBy_67 : decode cX9_liftedBy 67 = .ok (.goto (-52), 3) := by decide +kernel
theorem dX9_liftedBy_70 : decode cX9_liftedBy 70 = .ok (.iinc 3 1, 3) := by decide +kernel
theorem dX9_liftedBy_73 : decode cX9_liftedBy 73 = .ok (.goto (-69), 3) := by decide +kernel
theorem dX9_liftedBy_76 : decode cX9_liftedBy 76 = .ok (.iload_n 2, 1) := by decide +kernel
theorem dX9_liftedBy_77 : decode cX9_liftedBy 77 = .ok (.ireturn, 1) := by decide +kernel
theorem dX9_bestDay_0 : decode cX9_bestDay 0 = .ok (.aload_n 0, 1) := by decide +kernel
theorem dX9_bestDay_1 : decode cX9_bestDay 1 = .ok (.invokevirtual 77, 3) := by decide +kernel
theorem dX9_bestDay_4 : decode cX9_bestDay 4 = .ok (.istore_n 1, 1) := by decide +kernel
theorem dX9_bestDay_5 : decode cX9_bestDay 5 = .ok (.iconst (-1), 1) := by decide +kernel
theorem dX9_bestDay_6 : decode cX9_bestDay 6 = .ok (.istore_n 2, 1) := by decide +kernel
theorem dX9_bestDay_7 : decode cX9_bestDay 7 = .ok (.iload_n 1, 1) := by decide +kernel
theorem dX9_bestDay_8 : decode cX9_bestDay 8 = .ok (.iconst 1, 1) := by decide +kernel
theorem dX9_bestDay_9 : decode cX9_bestDay 9 = .ok (.iadd, 1) := by decide +kernel
theorem dX9_bestDay_10 : decode cX9_bestDay 10 = .ok (.istore_n 3, 1) := by decide +kernel
theorem dX9_bestDay_11 : decode cX9_bestDay 11 = .ok (.iconst 0, 1) := by decide +kernel
theorem dX9_bestDay_12 : decode cX9_bestDay 12 = .ok (.istore 4, 2) := by decide +kernel
theorem dX9_bestDay_14 : decode cX9_bestDay 14 = .ok (.iload 4, 2) := by decide +kernel
theorem dX9_bestDay_16 : decode cX9_bestDay 16 = .ok (.bipush 7, 2) := by decide +kernel
theorem dX9_bestDay_18 : decode cX9_bestDay 18 = .ok (.if_icmp .ge 50, 3) := by decide +kernel
theorem dX9_bestDay_21 : decode cX9_bestDay 21 = .ok (.iload_n 1, 1) := by decide +kernel
theorem dX9_bestDay_22 : decode cX9_bestDay 22 = .ok (.ifCond .le 46, 3) := by decide +kernel
theorem dX9_bestDay_25 : decode cX9_bestDay 25 = .ok (.aload_n 0, 1) := by decide +kernel
theorem dX9_bestDay_26 : decode cX9_bestDay 26 = .ok (.iconst (-1), 1) := by decide +kernel
theorem dX9_bestDay_27 : decode cX9_bestDay 27 = .ok (.iconst 0, 1) := by decide +kernel
theorem dX9_bestDay_28 : decode cX9_bestDay 28 = .ok (.iload 4, 2) := by decide +kernel
theorem dX9_bestDay_30 : decode cX9_bestDay 30 = .ok (.iconst 0, 1) := by decide +kernel
theorem dX9_bestDay_31 : decode cX9_bestDay 31 = .ok (.invokestatic 80, 3) := by decide +kernel
theorem dX9_bestDay_34 : decode cX9_bestDay 34 = .ok (.invokevirtual 84, 3) := by decide +kernel
theorem dX9_bestDay_37 : decode cX9_bestDay 37 = .ok (.istore 5, 2) := by decide +kernel
theorem dX9_bestDay_39 : decode cX9_bestDay 39 = .ok (.iload 5, 2) := by decide +kernel
theorem dX9_bestDay_41 : decode cX9_bestDay 41 = .ok (.iload_n 1, 1) := by decide +kernel
theorem dX9_bestDay_42 : decode cX9_bestDay 42 = .ok (.iload 5, 2) := by decide +kernel
theorem dX9_bestDay_44 : decode cX9_bestDay 44 = .ok (.isub, 1) := by decide +kernel
theorem dX9_bestDay_45 : decode cX9_bestDay 45 = .ok (.invokestatic 87, 3) := by decide +kernel
theorem dX9_bestDay_48 : decode cX9_bestDay 48 = .ok (.istore 6, 2) := by decide +kernel
theorem dX9_bestDay_50 : decode cX9_bestDay 50 = .ok (.iload 6, 2) := by decide +kernel
theorem dX9_bestDay_52 : decode cX9_bestDay 52 = .ok (.iload_n 3, 1) := by decide +kernel
theorem dX9_bestDay_53 : decode cX9_bestDay 53 = .ok (.if_icmp .ge 9, 3) := by decide +kernel
theorem dX9_bestDay_56 : decode cX9_bestDay 56 = .ok (.iload 6, 2) := by decide +kernel
theorem dX9_bestDay_58 : decode cX9_bestDay 58 = .ok (.istore_n 3, 1) := by decide +kernel
theorem dX9_bestDay_59 : decode cX9_bestDay 59 = .ok (.iload 4, 2) := by decide +kernel
theorem dX9_bestDay_61 : decode cX9_bestDay 61 = .ok (.istore_n 2, 1) := by decide +kernel
theorem dX9_bestDay_62 : decode cX9_bestDay 62 = .ok (.iinc 4 1, 3) := by decide +kernel
theorem dX9_bestDay_65 : decode cX9_bestDay 65 = .ok (.goto (-51), 3) := by decide +kernel
theorem dX9_bestDay_68 : decode cX9_bestDay 68 = .ok (.iload_n 2, 1) := by decide +kernel
theorem dX9_bestDay_69 : decode cX9_bestDay 69 = .ok (.ireturn, 1) := by decide +kernel
theorem dX10_next_0 : decode cX10_next 0 = .ok (.aload_n 0, 1) := by decide +kernel
theorem dX10_next_1 : decode cX10_next 1 = .ok (.getfield 56, 3) := by decide +kernel
theorem dX10_next_4 : decode cX10_next 4 = .ok (.aload_n 0, 1) := by decide +kernel
theorem dX10_next_5 : decode cX10_next 5 = .ok (.getfield 21, 3) := by decide +kernel
theorem dX10_next_8 : decode cX10_next 8 = .ok (.invokevirtual 296, 3) := by decide +kernel
theorem dX10_next_11 : decode cX10_next 11 = .ok (.invokevirtual 299, 3) := by decide +kernel
theorem dX10_next_14 : decode cX10_next 14 = .ok (.aload_n 0, 1) := by decide +kernel
theorem dX10_next_15 : decode cX10_next 15 = .ok (.getfield 56, 3) := by decide +kernel
theorem dX10_next_18 : decode cX10_next 18 = .ok (.invokevirtual 314, 3) := by decide +kernel
theorem dX10_next_21 : decode cX10_next 21 = .ok (.ireturn, 1) := by decide +kernel
theorem dX6_broken_0 : decode cX6_broken 0 = .ok (.iload_n 0, 1) := by decide +kernel
theorem dX6_broken_1 : decode cX6_broken 1 = .ok (.iconst 5, 1) := by decide +kernel
theorem dX6_broken_2 : decode cX6_broken 2 = .ok (.ishr, 1) := by decide +kernel
theorem dX6_broken_3 : decode cX6_broken 3 = .ok (.iconst 3, 1) := by decide +kernel
theorem dX6_broken_4 : decode cX6_broken 4 = .ok (.iand, 1) := by decide +kernel
theorem dX6_broken_5 : decode cX6_broken 5 = .ok (.ireturn, 1) := by decide +kernel
theorem dX10_count_0 : decode cX10_count 0 = .ok (.iload_n 1, 1) := by decide +kernel
theorem dX10_count_1 : decode cX10_count 1 = .ok (.tableswitch 168 0 12 #[67, 75, 83, 91, 99, 107, 115, 123, 128, 136, 144, 152, 160], 67) := by decide +kernel
theorem dX10_count_68 : decode cX10_count 68 = .ok (.aload_n 0, 1) := by decide +kernel
theorem dX10_count_69 : decode cX10_count 69 = .ok (.getfield 21, 3) := by decide +kernel
theorem dX10_count_72 : decode cX10_count 72 = .ok (.invokevirtual 296, 3) := by decide +kernel
theorem dX10_count_75 : decode cX10_count 75 = .ok (.ireturn, 1) := by decide +kernel
theorem dX10_count_76 : decode cX10_count 76 = .ok (.aload_n 0, 1) := by decide +kernel
theorem dX10_count_77 : decode cX10_count 77 = .ok (.getfield 21, 3) := by decide +kernel
theorem dX10_count_80 : decode cX10_count 80 = .ok (.invokevirtual 317, 3) := by decide +kernel
theorem dX10_count_83 : decode cX10_count 83 = .ok (.ireturn, 1) := by decide +kernel
theorem dX10_count_84 : decode cX10_count 84 = .ok (.aload_n 0, 1) := by decide +kernel
theorem dX10_count_85 : decode cX10_count 85 = .ok (.getfield 114, 3) := by decide +kernel
theorem dX10_count_88 : decode cX10_count 88 = .ok (.invokestatic 271, 3) := by decide +kernel
theorem dX10_count_91 : decode cX10_count 91 = .ok (.ireturn, 1) := by decide +kernel
theorem dX10_count_92 : decode cX10_count 92 = .ok (.aload_n 0, 1) := by decide +kernel
theorem dX10_count_93 : decode cX10_count 93 = .ok (.getfield 114, 3) := by decide +kernel
theorem dX10_count_96 : decode cX10_count 96 = .ok (.invokestatic 320, 3) := by decide +kernel
theorem dX10_count_99 : decode cX10_count 99 = .ok (.ireturn, 1) := by decide +kernel
theorem dX10_count_100 : decode cX10_count 100 = .ok (.aload_n 0, 1) := by decide +kernel
theorem dX10_count_101 : decode cX10_count 101 = .ok (.getfield 114, 3) := by decide +kernel
theorem dX10_count_104 : decode cX10_count 104 = .ok (.invokestatic 131, 3) := by decide +kernel
theorem dX10_count_107 : decode cX10_count 107 = .ok (.ireturn, 1) := by decide +kernel
theorem dX10_count_108 : decode cX10_count 108 = .ok (.aload_n 0, 1) := by decide +kernel
theorem dX10_count_109 : decode cX10_count 109 = .ok (.getfield 114, 3) := by decide +kernel
theorem dX10_count_112 : decode cX10_count 112 = .ok (.invokestatic 283, 3) := by decide +kernel
theorem dX10_count_115 : decode cX10_count 115 = .ok (.ireturn, 1) := by decide +kernel
theorem dX10_count_116 : decode cX10_count 116 = .ok (.aload_n 0, 1) := by decide +kernel
theorem dX10_count_117 : decode cX10_count 117 = .ok (.getfield 114, 3) := by decide +kernel
theorem dX10_count_120 : decode cX10_count 120 = .ok (.invokestatic 323, 3) := by decide +kernel
theorem dX10_count_123 : decode cX10_count 123 = .ok (.ireturn, 1) := by decide +kernel
theorem dX10_count_124 : decode cX10_count 124 = .ok (.aload_n 0, 1) := by decide +kernel
theorem dX10_count_125 : decode cX10_count 125 = .ok (.getfield 118, 3) := by decide +kernel
theorem dX10_count_128 : decode cX10_count 128 = .ok (.ireturn, 1) := by decide +kernel
theorem dX10_count_129 : decode cX10_count 129 = .ok (.aload_n 0, 1) := by decide +kernel
theorem dX10_count_130 : decode cX10_count 130 = .ok (.getfield 60, 3) := by decide +kernel
theorem dX10_count_133 : decode cX10_count 133 = .ok (.invokevirtual 83, 3) := by decide +kernel
theorem dX10_count_136 : decode cX10_count 136 = .ok (.ireturn, 1) := by decide +kernel
theorem dX10_count_137 : decode cX10_count 137 = .ok (.aload_n 0, 1) := by decide +kernel
theorem dX10_count_138 : decode cX10_count 138 = .ok (.getfield 70, 3) := by decide +kernel
theorem dX10_count_141 : decode cX10_count 141 = .ok (.invokevirtual 83, 3) := by decide +kernel
theorem dX10_count_144 : decode cX10_count 144 = .ok (.ireturn, 1) := by decide +kernel
theorem dX10_count_145 : decode cX10_count 145 = .ok (.aload_n 0, 1) := by decide +kernel
theorem dX10_count_146 : decode cX10_count 146 = .ok (.getfield 73, 3) := by decide +kernel
theorem dX10_count_149 : decode cX10_count 149 = .ok (.invokevirtual 83, 3) := by decide +kernel
theorem dX10_count_152 : decode cX10_count 152 = .ok (.ireturn, 1) := by decide +kernel
theorem dX10_count_153 : decode cX10_count 153 = .ok (.aload_n 0, 1) := by decide +kernel
theorem dX10_count_154 : decode cX10_count 154 = .ok (.getfield 56, 3) := by decide +kernel
theorem dX10_count_157 : decode cX10_count 157 = .ok (.invokevirtual 295, 3) := by decide +kernel
theorem dX10_count_160 : decode cX10_count 160 = .ok (.ireturn, 1) := by decide +kernel
theorem dX10_count_161 : decode cX10_count 161 = .ok (.aload_n 0, 1) := by decide +kernel
theorem dX10_count_162 : decode cX10_count 162 = .ok (.getfield 14, 3) := by decide +kernel
theorem dX10_count_165 : decode cX10_count 165 = .ok (.invokevirtual 83, 3) := by decide +kernel
theorem dX10_count_168 : decode cX10_count 168 = .ok (.ireturn, 1) := by decide +kernel
theorem dX10_count_169 : decode cX10_count 169 = .ok (.bipush (-3), 2) := by decide +kernel
theorem dX10_count_171 : decode cX10_count 171 = .ok (.ireturn, 1) := by decide +kernel
theorem dX11_init_0 : decode cX11_init 0 = .ok (.aload_n 0, 1) := by decide +kernel
theorem dX11_init_1 : decode cX11_init 1 = .ok (.invokespecial 1, 3) := by decide +kernel
theorem dX11_init_4 : decode cX11_init 4 = .ok (.aload_n 0, 1) := by decide +kernel
theorem dX11_init_5 : decode cX11_init 5 = .ok (.sipush 240, 3) := by decide +kernel
theorem dX11_init_8 : decode cX11_init 8 = .ok (.newarray .int, 2) := by decide +kernel
theorem dX11_init_10 : decode cX11_init 10 = .ok (.putfield 7, 3) := by decide +kernel
theorem dX11_init_13 : decode cX11_init 13 = .ok (.aload_n 0, 1) := by decide +kernel
theorem dX11_init_14 : decode cX11_init 14 = .ok (.bipush 120, 2) := by decide +kernel
theorem dX11_init_16 : decode cX11_init 16 = .ok (.newarray .int, 2) := by decide +kernel
theorem dX11_init_18 : decode cX11_init 18 = .ok (.putfield 13, 3) := by decide +kernel
theorem dX11_init_21 : decode cX11_init 21 = .ok (.aload_n 0, 1) := by decide +kernel
theorem dX11_init_22 : decode cX11_init 22 = .ok (.iconst 2, 1) := by decide +kernel
theorem dX11_init_23 : decode cX11_init 23 = .ok (.putfield 16, 3) := by decide +kernel
theorem dX11_init_26 : decode cX11_init 26 = .ok (.aload_n 0, 1) := by decide +kernel
theorem dX11_init_27 : decode cX11_init 27 = .ok (.bipush 50, 2) := by decide +kernel
theorem dX11_init_29 : decode cX11_init 29 = .ok (.newarray .int, 2) := by decide +kernel
theorem dX11_init_31 : decode cX11_init 31 = .ok (.putfield 20, 3) := by decide +kernel
theorem dX11_init_34 : decode cX11_init 34 = .ok (.aload_n 0, 1) := by decide +kernel
theorem dX11_init_35 : decode cX11_init 35 = .ok (.bipush 8, 2) := by decide +kernel
theorem dX11_init_37 : decode cX11_init 37 = .ok (.newarray .int, 2) := by decide +kernel
theorem dX11_init_39 : decode cX11_init 39 = .ok (.putfield 23, 3) := by decide +kernel
theorem dX11_init_42 : decode cX11_init 42 = .ok (.aload_n 0, 1) := by decide +kernel
theorem dX11_init_43 : decode cX11_init 43 = .ok (.iconst 2, 1) := by decide +kernel
theorem dX11_init_44 : decode cX11_init 44 = .ok (.newarray .int, 2) := by decide +kernel
theorem dX11_init_46 : decode cX11_init 46 = .ok (.putfield 26, 3) := by decide +kernel
theorem dX11_init_49 : decode cX11_init 49 = .ok (.aload_n 0, 1) := by decide +kernel
theorem dX11_init_50 : decode cX11_init 50 = .ok (.iconst 2, 1) := by decide +kernel
theorem dX11_init_51 : decode cX11_init 51 = .ok (.newarray .int, 2) := by decide +kernel
theorem dX11_init_53 : decode cX11_init 53 = .ok (.putfield 29, 3) := by decide +kernel
theorem dX11_init_56 : decode cX11_init 56 = .ok (.aload_n 0, 1) := by decide +kernel
theorem dX11_init_57 : decode cX11_init 57 = .ok (.iconst 2, 1) := by decide +kernel
theorem dX11_init_58 : decode cX11_init 58 = .ok (.newarray .boolean, 2) := by decide +kernel
theorem dX11_init_60 : decode cX11_init 60 = .ok (.putfield 32, 3) := by decide +kernel
theorem dX11_init_63 : decode cX11_init 63 = .ok (.aload_n 0, 1) := by decide +kernel
theorem dX11_init_64 : decode cX11_init 64 = .ok (.ldc 36, 2) := by decide +kernel
theorem dX11_init_66 : decode cX11_init 66 = .ok (.newarray .int, 2) := by decide +kernel
theorem dX11_init_68 : decode cX11_init 68 = .ok (.putfield 37, 3) := by decide +kernel
theorem dX11_init_71 : decode cX11_init 71 = .ok (.aload_n 0, 1) := by decide +kernel
theorem dX11_init_72 : decode cX11_init 72 = .ok (.ldc 36, 2) := by decide +kernel
theorem dX11_init_74 : decode cX11_init 74 = .ok (.newarray .int, 2) := by decide +kernel
theorem dX11_init_76 : decode cX11_init 76 = .ok (.putfield 40, 3) := by decide +kernel
theorem dX11_init_79 : decode cX11_init 79 = .ok (.aload_n 0, 1) := by decide +kernel
theorem dX11_init_80 : decode cX11_init 80 = .ok (.ldc 36, 2) := by decide +kernel
theorem dX11_init_82 : decode cX11_init 82 = .ok (.newarray .int, 2) := by decide +kernel
theorem dX11_init_84 : decode cX11_init 84 = .ok (.putfield 43, 3) := by decide +kernel
theorem dX11_init_87 : decode cX11_init 87 = .ok (.aload_n 0, 1) := by decide +kernel
theorem dX11_init_88 : decode cX11_init 88 = .ok (.ldc 36, 2) := by decide +kernel
theorem dX11_init_90 : decode cX11_init 90 = .ok (.newarray .boolean, 2) := by decide +kernel
theorem dX11_init_92 : decode cX11_init 92 = .ok (.putfield 46, 3) := by decide +kernel
theorem dX11_init_95 : decode cX11_init 95 = .ok (.aload_n 0, 1) := by decide +kernel
theorem dX11_init_96 : decode cX11_init 96 = .ok (.bipush 12, 2) := by decide +kernel
theorem dX11_init_98 : decode cX11_init 98 = .ok (.newarray .int, 2) := by decide +kernel
theorem dX11_init_100 : decode cX11_init 100 = .ok (.putfield 49, 3) := by decide +kernel
theorem dX11_init_103 : decode cX11_init 103 = .ok (.aload_n 0, 1) := by decide +kernel
theorem dX11_init_104 : decode cX11_init 104 = .ok (.bipush 15, 2) := by decide +kernel
theorem dX11_init_106 : decode cX11_init 106 = .ok (.newarray .int, 2) := by decide +kernel
theorem dX11_init_108 : decode cX11_init 108 = .ok (.putfield 52, 3) := by decide +kernel
theorem dX11_init_111 : decode cX11_init 111 = .ok (.aload_n 0, 1) := by decide +kernel
theorem dX11_init_112 : decode cX11_init 112 = .ok (.bipush 40, 2) := by decide +kernel
theorem dX11_init_114 : decode cX11_init 114 = .ok (.newarray .int, 2) := by decide +kernel
theorem dX11_init_116 : decode cX11_init 116 = .ok (.putfield 55, 3) := by decide +kernel
theorem dX11_init_119 : decode cX11_init 119 = .ok (.return_, 1) := by decide +kernel
theorem dX11_in_0 : decode cX11_in 0 = .ok (.lload_n 0, 1) := by decide +kernel
theorem dX11_in_1 : decode cX11_in 1 = .ok (.lload_n 2, 1) := by decide +kernel
theorem dX11_in_2 : decode cX11_in 2 = .ok (.lcmp, 1) := by decide +kernel
theorem dX11_in_3 : decode cX11_in 3 = .ok (.ifCond .lt 14, 3) := by decide +kernel
theorem dX11_in_6 : decode cX11_in 6 = .ok (.lload_n 0, 1) := by decide +kernel
theorem dX11_in_7 : decode cX11_in 7 = .ok (.lload 4, 2) := by decide +kernel
theorem dX11_in_9 : decode cX11_in 9 = .ok (.lcmp, 1) := by decide +kernel
theorem dX11_in_10 : decode cX11_in 10 = .ok (.ifCond .gt 7, 3) := by decide +kernel
theorem dX11_in_13 : decode cX11_in 13 = .ok (.iconst 1, 1) := by decide +kernel
theorem dX11_in_14 : decode cX11_in 14 = .ok (.goto 4, 3) := by decide +kernel
theorem dX11_in_17 : decode cX11_in 17 = .ok (.iconst 0, 1) := by decide +kernel
theorem dX11_in_18 : decode cX11_in 18 = .ok (.ireturn, 1) := by decide +kernel
theorem dX11_has_0 : decode cX11_has 0 = .ok (.iload_n 0, 1) := by decide +kernel
theorem dX11_has_1 : decode cX11_has 1 = .ok (.iload_n 1, 1) := by decide +kernel
theorem dX11_has_2 : decode cX11_has 2 = .ok (.ishr, 1) := by decide +kernel
theorem dX11_has_3 : decode cX11_has 3 = .ok (.iconst 1, 1) := by decide +kernel
theorem dX11_has_4 : decode cX11_has 4 = .ok (.iand, 1) := by decide +kernel
theorem dX11_has_5 : decode cX11_has 5 = .ok (.iconst 1, 1) := by decide +kernel
theorem dX11_has_6 : decode cX11_has 6 = .ok (.if_icmp .ne 7, 3) := by decide +kernel
theorem dX11_has_9 : decode cX11_has 9 = .ok (.iconst 1, 1) := by decide +kernel
theorem dX11_has_10 : decode cX11_has 10 = .ok (.goto 4, 3) := by decide +kernel
theorem dX11_has_13 : decode cX11_has 13 = .ok (.iconst 0, 1) := by decide +kernel
theorem dX11_has_14 : decode cX11_has 14 = .ok (.ireturn, 1) := by decide +kernel
theorem dX11_bits_0 : decode cX11_bits 0 = .ok (.iconst 0, 1) := by decide +kernel
theorem dX11_bits_1 : decode cX11_bits 1 = .ok (.istore_n 1, 1) := by decide +kernel
theorem dX11_bits_2 : decode cX11_bits 2 = .ok (.iconst 0, 1) := by decide +kernel
theorem dX11_bits_3 : decode cX11_bits 3 = .ok (.istore_n 2, 1) := by decide +kernel
theorem dX11_bits_4 : decode cX11_bits 4 = .ok (.iload_n 2, 1) := by decide +kernel
theorem dX11_bits_5 : decode cX11_bits 5 = .ok (.iconst 5, 1) := by decide +kernel
theorem dX11_bits_6 : decode cX11_bits 6 = .ok (.if_icmp .ge 17, 3) := by decide +kernel
theorem dX11_bits_9 : decode cX11_bits 9 = .ok (.iload_n 1, 1) := by decide +kernel
theorem dX11_bits_10 : decode cX11_bits 10 = .ok (.iload_n 0, 1) := by decide +kernel
theorem dX11_bits_11 : decode cX11_bits 11 = .ok (.iload_n 2, 1) := by decide +kernel
theorem dX11_bits_12 : decode cX11_bits 12 = .ok (.ishr, 1) := by decide +kernel
theorem dX11_bits_13 : decode cX11_bits 13 = .ok (.iconst 1, 1) := by decide +kernel
theorem dX11_bits_14 : decode cX11_bits 14 = .ok (.iand, 1) := by decide +kernel
theorem dX11_bits_15 : decode cX11_bits 15 = .ok (.iadd, 1) := by decide +kernel
theorem dX11_bits_16 : decode cX11_bits 16 = .ok (.istore_n 1, 1) := by decide +kernel
theorem dX11_bits_17 : decode cX11_bits 17 = .ok (.iinc 2 1, 3) := by decide +kernel
theorem dX11_bits_20 : decode cX11_bits 20 = .ok (.goto (-16), 3) := by decide +kernel
theorem dX11_bits_23 : decode cX11_bits 23 = .ok (.iload_n 1, 1) := by decide +kernel
theorem dX11_bits_24 : decode cX11_bits 24 = .ok (.ireturn, 1) := by decide +kernel
theorem dX11_write_0 : decode cX11_write 0 = .ok (.iload_n 1, 1) := by decide +kernel
theorem dX11_write_1 : decode cX11_write 1 = .ok (.i2l, 1) := by decide +kernel
theorem dX11_write_2 : decode cX11_write 2 = .ok (.lconst 0, 1) := by decide +kernel
theorem dX11_write_3 : decode cX11_write 3 = .ok (.ldc2_w 58, 3) := by decide +kernel
theorem dX11_write_6 : decode cX11_write 6 = .ok (.invokestatic 60, 3) := by decide +kernel
theorem dX11_write_9 : decode cX11_write 9 = .ok (.ifCond .ne 6, 3) := by decide +kernel
theorem dX11_write_12 : decode cX11_write 12 = .ok (.bipush (-3), 2) := by decide +kernel
theorem dX11_write_14 : decode cX11_write 14 = .ok (.ireturn, 1) := by decide +kernel
theorem dX11_write_15 : decode cX11_write 15 = .ok (.aload_n 0, 1) := by decide +kernel
theorem dX11_write_16 : decode cX11_write 16 = .ok (.getfield 64, 3) := by decide +kernel
theorem dX11_write_19 : decode cX11_write 19 = .ok (.sipush 240, 3) := by decide +kernel
theorem dX11_write_22 : decode cX11_write 22 = .ok (.if_icmp .ne 6, 3) := by decide +kernel
theorem dX11_write_25 : decode cX11_write 25 = .ok (.bipush (-5), 2) := by decide +kernel
theorem dX11_write_27 : decode cX11_write 27 = .ok (.ireturn, 1) := by decide +kernel
theorem dX11_write_28 : decode cX11_write 28 = .ok (.aload_n 0, 1) := by decide +kernel
theorem dX11_write_29 : decode cX11_write 29 = .ok (.getfield 7, 3) := by decide +kernel
theorem dX11_write_32 : decode cX11_write 32 = .ok (.aload_n 0, 1) := by decide +kernel
theorem dX11_write_33 : decode cX11_write 33 = .ok (.getfield 64, 3) := by decide +kernel
theorem dX11_write_36 : decode cX11_write 36 = .ok (.iload_n 1, 1) := by decide +kernel
theorem dX11_write_37 : decode cX11_write 37 = .ok (.iastore, 1) := by decide +kernel
theorem dX11_write_38 : decode cX11_write 38 = .ok (.aload_n 0, 1) := by decide +kernel
theorem dX11_write_39 : decode cX11_write 39 = .ok (.dup, 1) := by decide +kernel
theorem dX11_write_40 : decode cX11_write 40 = .ok (.getfield 64, 3) := by decide +kernel
theorem dX11_write_43 : decode cX11_write 43 = .ok (.iconst 1, 1) := by decide +kernel
theorem dX11_write_44 : decode cX11_write 44 = .ok (.iadd, 1) := by decide +kernel
theorem dX11_write_45 : decode cX11_write 45 = .ok (.putfield 64, 3) := by decide +kernel
theorem dX11_write_48 : decode cX11_write 48 = .ok (.aload_n 0, 1) := by decide +kernel
theorem dX11_write_49 : decode cX11_write 49 = .ok (.getfield 64, 3) := by decide +kernel
theorem dX11_write_52 : decode cX11_write 52 = .ok (.ireturn, 1) := by decide +kernel
theorem dX11_erase_0 : decode cX11_erase 0 = .ok (.aload_n 0, 1) := by decide +kernel
theorem dX11_erase_1 : decode cX11_erase 1 = .ok (.getfield 64, 3) := by decide +kernel
theorem dX11_erase_4 : decode cX11_erase 4 = .ok (.istore_n 1, 1) := by decide +kernel
theorem dX11_erase_5 : decode cX11_erase 5 = .ok (.aload_n 0, 1) := by decide +kernel
theorem dX11_erase_6 : decode cX11_erase 6 = .ok (.iconst 0, 1) := by decide +kernel
theorem dX11_erase_7 : decode cX11_erase 7 = .ok (.putfield 64, 3) := by decide +kernel
theorem dX11_erase_10 : decode cX11_erase 10 = .ok (.iload_n 1, 1) := by decide +kernel
theorem dX11_erase_11 : decode cX11_erase 11 = .ok (.ireturn, 1) := by decide +kernel
theorem dX11_sort_0 : decode cX11_sort 0 = .ok (.iload_n 0, 1) := by decide +kernel
theorem dX11_sort_1 : decode cX11_sort 1 = .ok (.bipush 97, 2) := by decide +kernel
theorem dX11_sort_3 : decode cX11_sort 3 = .ok (.if_icmp .lt 13, 3) := by decide +kernel
theorem dX11_sort_6 : decode cX11_sort 6 = .ok (.iload_n 0, 1) := by decide +kernel
theorem dX11_sort_7 : decode cX11_sort 7 = .ok (.bipush 122, 2) := by decide +kernel
theorem dX11_sort_9 : decode cX11_sort 9 = .ok (.if_icmp .gt 7, 3) := by decide +kernel
theorem dX11_sort_12 : decode cX11_sort 12 = .ok (.iconst 1, 1) := by decide +kernel
theorem dX11_sort_13 : decode cX11_sort 13 = .ok (.goto 20, 3) := by decide +kernel
theorem dX11_sort_16 : decode cX11_sort 16 = .ok (.iload_n 0, 1) := by decide +kernel
theorem dX11_sort_17 : decode cX11_sort 17 = .ok (.bipush 48, 2) := by decide +kernel
theorem dX11_sort_19 : decode cX11_sort 19 = .ok (.if_icmp .lt 13, 3) := by decide +kernel
theorem dX11_sort_22 : decode cX11_sort 22 = .ok (.iload_n 0, 1) := by decide +kernel
theorem dX11_sort_23 : decode cX11_sort 23 = .ok (.bipush 57, 2) := by decide +kernel
theorem dX11_sort_25 : decode cX11_sort 25 = .ok (.if_icmp .gt 7, 3) := by decide +kernel
theorem dX11_sort_28 : decode cX11_sort 28 = .ok (.iconst 2, 1) := by decide +kernel
theorem dX11_sort_29 : decode cX11_sort 29 = .ok (.goto 4, 3) := by decide +kernel
theorem dX11_sort_32 : decode cX11_sort 32 = .ok (.iconst 0, 1) := by decide +kernel
theorem dX11_sort_33 : decode cX11_sort 33 = .ok (.ireturn, 1) := by decide +kernel
theorem dX11_token_0 : decode cX11_token 0 = .ok (.aload_n 0, 1) := by decide +kernel
theorem dX11_token_1 : decode cX11_token 1 = .ok (.getfield 67, 3) := by decide +kernel
theorem dX11_token_4 : decode cX11_token 4 = .ok (.aload_n 0, 1) := by decide +kernel
theorem dX11_token_5 : decode cX11_token 5 = .ok (.getfield 64, 3) := by decide +kernel
theorem dX11_token_8 : decode cX11_token 8 = .ok (.if_icmp .ge 30, 3) := by decide +kernel
theorem dX11_token_11 : decode cX11_token 11 = .ok (.aload_n 0, 1) := by decide +kernel
theorem dX11_token_12 : decode cX11_token 12 = .ok (.getfield 7, 3) := by decide +kernel
theorem dX11_token_15 : decode cX11_token 15 = .ok (.aload_n 0, 1) := by decide +kernel
theorem dX11_token_16 : decode cX11_token 16 = .ok (.getfield 67, 3) := by decide +kernel
theorem dX11_token_19 : decode cX11_token 19 = .ok (.iaload, 1) := by decide +kernel
theorem dX11_token_20 : decode cX11_token 20 = .ok (.bipush 32, 2) := by decide +kernel
theorem dX11_token_22 : decode cX11_token 22 = .ok (.if_icmp .ne 16, 3) := by decide +kernel
theorem dX11_token_25 : decode cX11_token 25 = .ok (.aload_n 0, 1) := by decide +kernel
theorem dX11_token_26 : decode cX11_token 26 = .ok (.dup, 1) := by decide +kernel
theorem dX11_token_27 : decode cX11_token 27 = .ok (.getfield 67, 3) := by decide +kernel
theorem dX11_token_30 : decode cX11_token 30 = .ok (.iconst 1, 1) := by decide +kernel
theorem dX11_token_31 : decode cX11_token 31 = .ok (.iadd, 1) := by decide +kernel
theorem dX11_token_32 : decode cX11_token 32 = .ok (.putfield 67, 3) := by decide +kernel
theorem dX11_token_35 : decode cX11_token 35 = .ok (.goto (-35), 3) := by decide +kernel
theorem dX11_token_38 : decode cX11_token 38 = .ok (.aload_n 0, 1) := by decide +kernel
theorem dX11_token_39 : decode cX11_token 39 = .ok (.aload_n 0, 1) := by decide +kernel
theorem dX11_token_40 : decode cX11_token 40 = .ok (.getfield 67, 3) := by decide +kernel
theorem dX11_token_43 : decode cX11_token 43 = .ok (.putfield 70, 3) := by decide +kernel
theorem dX11_token_46 : decode cX11_token 46 = .ok (.aload_n 0, 1) := by decide +kernel
theorem dX11_token_47 : decode cX11_token 47 = .ok (.dup, 1) := by decide +kernel
theorem dX11_token_48 : decode cX11_token 48 = .ok (.getfield 67, 3) := by decide +kernel
theorem dX11_token_51 : decode cX11_token 51 = .ok (.aload_n 0, 1) := by decide +kernel
theorem dX11_token_52 : decode cX11_token 52 = .ok (.getfield 67, 3) := by decide +kernel
theorem dX11_token_55 : decode cX11_token 55 = .ok (.aload_n 0, 1) := by decide +kernel
theorem dX11_token_56 : decode cX11_token 56 = .ok (.getfield 64, 3) := by decide +kernel
theorem dX11_token_59 : decode cX11_token 59 = .ok (.if_icmp .ge 7, 3) := by decide +kernel
theorem dX11_token_62 : decode cX11_token 62 = .ok (.iconst 1, 1) := by decide +kernel
theorem dX11_token_63 : decode cX11_token 63 = .ok (.goto 4, 3) := by decide +kernel
theorem dX11_token_66 : decode cX11_token 66 = .ok (.iconst 0, 1) := by decide +kernel
theorem dX11_token_67 : decode cX11_token 67 = .ok (.iadd, 1) := by decide +kernel
theorem dX11_token_68 : decode cX11_token 68 = .ok (.putfield 67, 3) := by decide +kernel
theorem dX11_token_71 : decode cX11_token 71 = .ok (.aload_n 0, 1) := by decide +kernel
theorem dX11_token_72 : decode cX11_token 72 = .ok (.getfield 67, 3) := by decide +kernel
theorem dX11_token_75 : decode cX11_token 75 = .ok (.aload_n 0, 1) := by decide +kernel
theorem dX11_token_76 : decode cX11_token 76 = .ok (.getfield 64, 3) := by decide +kernel
theorem dX11_token_79 : decode cX11_token 79 = .ok (.if_icmp .ge 58, 3) := by decide +kernel
theorem dX11_token_82 : decode cX11_token 82 = .ok (.aload_n 0, 1) := by decide +kernel
theorem dX11_token_83 : decode cX11_token 83 = .ok (.getfield 7, 3) := by decide +kernel
theorem dX11_token_86 : decode cX11_token 86 = .ok (.aload_n 0, 1) := by decide +kernel
theorem dX11_token_87 : decode cX11_token 87 = .ok (.getfield 70, 3) := by decide +kernel
theorem dX11_token_90 : decode cX11_token 90 = .ok (.iaload, 1) := by decide +kernel
theorem dX11_token_91 : decode cX11_token 91 = .ok (.invokestatic 73, 3) := by decide +kernel
theorem dX11_token_94 : decode cX11_token 94 = .ok (.ifCond .le 43, 3) := by decide +kernel
theorem dX11_token_97 : decode cX11_token 97 = .ok (.aload_n 0, 1) := by decide +kernel
theorem dX11_token_98 : decode cX11_token 98 = .ok (.getfield 7, 3) := by decide +kernel
theorem dX11_token_101 : decode cX11_token 101 = .ok (.aload_n 0, 1) := by decide +kernel
theorem dX11_token_102 : decode cX11_token 102 = .ok (.getfield 67, 3) := by decide +kernel
theorem dX11_token_105 : decode cX11_token 105 = .ok (.iaload, 1) := by decide +kernel
theorem dX11_token_106 : decode cX11_token 106 = .ok (.invokestatic 73, 3) := by decide +kernel
theorem dX11_token_109 : decode cX11_token 109 = .ok (.aload_n 0, 1) := by decide +kernel
theorem dX11_token_110 : decode cX11_token 110 = .ok (.getfield 7, 3) := by decide +kernel
theorem dX11_token_113 : decode cX11_token 113 = .ok (.aload_n 0, 1) := by decide +kernel
theorem dX11_token_114 : decode cX11_token 114 = .ok (.getfield 70, 3) := by decide +kernel
theorem dX11_token_117 : decode cX11_token 117 = .ok (.iaload, 1) := by decide +kernel
theorem dX11_token_118 : decode cX11_token 118 = .ok (.invokestatic 73, 3) := by decide +kernel
theorem dX11_token_121 : decode cX11_token 121 = .ok (.if_icmp .ne 16, 3) := by decide +kernel
theorem dX11_token_124 : decode cX11_token 124 = .ok (.aload_n 0, 1) := by decide +kernel
theorem dX11_token_125 : decode cX11_token 125 = .ok (.dup, 1) := by decide +kernel
theorem dX11_token_126 : decode cX11_token 126 = .ok (.getfield 67, 3) := by decide +kernel
theorem dX11_token_129 : decode cX11_token 129 = .ok (.iconst 1, 1) := by decide +kernel
theorem dX11_token_130 : decode cX11_token 130 = .ok (.iadd, 1) := by decide +kernel
theorem dX11_token_131 : decode cX11_token 131 = .ok (.putfield 67, 3) := by decide +kernel
theorem dX11_token_134 : decode cX11_token 134 = .ok (.goto (-63), 3) := by decide +kernel
theorem dX11_token_137 : decode cX11_token 137 = .ok (.aload_n 0, 1) := by decide +kernel
theorem dX11_token_138 : decode cX11_token 138 = .ok (.aload_n 0, 1) := by decide +kernel
theorem dX11_token_139 : decode cX11_token 139 = .ok (.getfield 67, 3) := by decide +kernel
theorem dX11_token_142 : decode cX11_token 142 = .ok (.putfield 77, 3) := by decide +kernel
theorem dX11_token_145 : decode cX11_token 145 = .ok (.return_, 1) := by decide +kernel
theorem dX11_isWord_0 : decode cX11_isWord 0 = .ok (.aload_n 0, 1) := by decide +kernel
theorem dX11_isWord_1 : decode cX11_isWord 1 = .ok (.getfield 77, 3) := by decide +kernel
theorem dX11_isWord_4 : decode cX11_isWord 4 = .ok (.aload_n 0, 1) := by decide +kernel
theorem dX11_isWord_5 : decode cX11_isWord 5 = .ok (.getfield 70, 3) := by decide +kernel
theorem dX11_isWord_8 : decode cX11_isWord 8 = .ok (.isub, 1) := by decide +kernel
theorem dX11_isWord_9 : decode cX11_isWord 9 = .ok (.iload_n 2, 1) := by decide +kernel
theorem dX11_isWord_10 : decode cX11_isWord 10 = .ok (.if_icmp .ne 7, 3) := by decide +kernel
theorem dX11_isWord_13 : decode cX11_isWord 13 = .ok (.iconst 1, 1) := by decide +kernel
theorem dX11_isWord_14 : decode cX11_isWord 14 = .ok (.goto 4, 3) := by decide +kernel
theorem dX11_isWord_17 : decode cX11_isWord 17 = .ok (.iconst 0, 1) := by decide +kernel
theorem dX11_isWord_18 : decode cX11_isWord 18 = .ok (.istore_n 3, 1) := by decide +kernel
theorem dX11_isWord_19 : decode cX11_isWord 19 = .ok (.iconst 0, 1) := by decide +kernel
theorem dX11_isWord_20 : decode cX11_isWord 20 = .ok (.istore 4, 2) := by decide +kernel
theorem dX11_isWord_22 : decode cX11_isWord 22 = .ok (.iload_n 3, 1) := by decide +kernel
theorem dX11_isWord_23 : decode cX11_isWord 23 = .ok (.ifCond .eq 48, 3) := by decide +kernel
theorem dX11_isWord_26 : decode cX11_isWord 26 = .ok (.iload 4, 2) := by decide +kernel
theorem dX11_isWord_28 : decode cX11_isWord 28 = .ok (.iload_n 2, 1) := by decide +kernel
theorem dX11_isWord_29 : decode cX11_isWord 29 = .ok (.if_icmp .ge 42, 3) := by decide +kernel
theorem dX11_isWord_32 : decode cX11_isWord 32 = .ok (.aload_n 0, 1) := by decide +kernel
theorem dX11_isWord_33 : decode cX11_isWord 33 = .ok (.getfield 7, 3) := by decide +kernel
theorem dX11_isWord_36 : decode cX11_isWord 36 = .ok (.aload_n 0, 1) := by decide +kernel
theorem dX11_isWord_37 : decode cX11_isWord 37 = .ok (.getfield 70, 3) := by decide +kernel
theorem dX11_isWord_40 : decode cX11_isWord 40 = .ok (.iload 4, 2) := by decide +kernel
theorem dX11_isWord_42 : decode cX11_isWord 42 = .ok (.iadd, 1) := by decide +kernel
theorem dX11_isWord_43 : decode cX11_isWord 43 = .ok (.iaload, 1) := by decide +kernel
theorem dX11_isWord_44 : decode cX11_isWord 44 = .ok (.bipush 96, 2) := by decide +kernel
theorem dX11_isWord_46 : decode cX11_isWord 46 = .ok (.iload_n 1, 1) := by decide +kernel
theorem dX11_isWord_47 : decode cX11_isWord 47 = .ok (.iconst 5, 1) := by decide +kernel
theorem dX11_isWord_48 : decode cX11_isWord 48 = .ok (.iload 4, 2) := by decide +kernel
theorem dX11_isWord_50 : decode cX11_isWord 50 = .ok (.imul, 1) := by decide +kernel
theorem dX11_isWord_51 : decode cX11_isWord 51 = .ok (.ishr, 1) := by decide +kernel
theorem dX11_isWord_52 : decode cX11_isWord 52 = .ok (.bipush 31, 2) := by decide +kernel
theorem dX11_isWord_54 : decode cX11_isWord 54 = .ok (.iand, 1) := by decide +kernel
theorem dX11_isWord_55 : decode cX11_isWord 55 = .ok (.iadd, 1) := by decide +kernel
theorem dX11_isWord_56 : decode cX11_isWord 56 = .ok (.if_icmp .ne 7, 3) := by decide +kernel
theorem dX11_isWord_59 : decode cX11_isWord 59 = .ok (.iconst 1, 1) := by decide +kernel
theorem dX11_isWord_60 : decode cX11_isWord 60 = .ok (.goto 4, 3) := by decide +kernel
theorem dX11_isWord_63 : decode cX11_isWord 63 = .ok (.iconst 0, 1) := by decide +kernel
theorem dX11_isWord_64 : decode cX11_isWord 64 = .ok (.istore_n 3, 1) := by decide +kernel
theorem dX11_isWord_65 : decode cX11_isWord 65 = .ok (.iinc 4 1, 3) := by decide +kernel
theorem dX11_isWord_68 : decode cX11_isWord 68 = .ok (.goto (-46), 3) := by decide +kernel
theorem dX11_isWord_71 : decode cX11_isWord 71 = .ok (.iload_n 3, 1) := by decide +kernel
theorem dX11_isWord_72 : decode cX11_isWord 72 = .ok (.ireturn, 1) := by decide +kernel
theorem dX11_spellWord_0 : decode cX11_spellWord 0 = .ok (.aload_n 0, 1) := by decide +kernel
theorem dX11_spellWord_1 : decode cX11_spellWord 1 = .ok (.ldc 80, 2) := by decide +kernel
theorem dX11_spellWord_3 : decode cX11_spellWord 3 = .ok (.iconst 5, 1) := by decide +kernel
theorem dX11_spellWord_4 : decode cX11_spellWord 4 = .ok (.invokevirtual 81, 3) := by decide +kernel
theorem dX11_spellWord_7 : decode cX11_spellWord 7 = .ok (.ifCond .eq 7, 3) := by decide +kernel
theorem dX11_spellWord_10 : decode cX11_spellWord 10 = .ok (.iconst 1, 1) := by decide +kernel
theorem dX11_spellWord_11 : decode cX11_spellWord 11 = .ok (.goto 46, 3) := by decide +kernel
theorem dX11_spellWord_14 : decode cX11_spellWord 14 = .ok (.aload_n 0, 1) := by decide +kernel
theorem dX11_spellWord_15 : decode cX11_spellWord 15 = .ok (.ldc 85, 2) := by decide +kernel
theorem dX11_spellWord_17 : decode cX11_spellWord 17 = .ok (.iconst 4, 1) := by decide +kernel
theorem dX11_spellWord_18 : decode cX11_spellWord 18 = .ok (.invokevirtual 81, 3) := by decide +kernel
theorem dX11_spellWord_21 : decode cX11_spellWord 21 = .ok (.ifCond .eq 7, 3) := by decide +kernel
theorem dX11_spellWord_24 : decode cX11_spellWord 24 = .ok (.iconst 2, 1) := by decide +kernel
theorem dX11_spellWord_25 : decode cX11_spellWord 25 = .ok (.goto 32, 3) := by decide +kernel
theorem dX11_spellWord_28 : decode cX11_spellWord 28 = .ok (.aload_n 0, 1) := by decide +kernel
theorem dX11_spellWord_29 : decode cX11_spellWord 29 = .ok (.ldc 86, 2) := by decide +kernel
theorem dX11_spellWord_31 : decode cX11_spellWord 31 = .ok (.iconst 4, 1) := by decide +kernel
theorem dX11_spellWord_32 : decode cX11_spellWord 32 = .ok (.invokevirtual 81, 3) := by decide +kernel
theorem dX11_spellWord_35 : decode cX11_spellWord 35 = .ok (.ifCond .eq 7, 3) := by decide +kernel
theorem dX11_spellWord_38 : decode cX11_spellWord 38 = .ok (.iconst 3, 1) := by decide +kernel
theorem dX11_spellWord_39 : decode cX11_spellWord 39 = .ok (.goto 18, 3) := by decide +kernel
theorem dX11_spellWord_42 : decode cX11_spellWord 42 = .ok (.aload_n 0, 1) := by decide +kernel
theorem dX11_spellWord_43 : decode cX11_spellWord 43 = .ok (.ldc 87, 2) := by decide +kernel
theorem dX11_spellWord_45 : decode cX11_spellWord 45 = .ok (.iconst 4, 1) := by decide +kernel
theorem dX11_spellWord_46 : decode cX11_spellWord 46 = .ok (.invokevirtual 81, 3) := by decide +kernel
theorem dX11_spellWord_49 : decode cX11_spellWord 49 = .ok (.ifCond .eq 7, 3) := by decide +kernel
theorem dX11_spellWord_52 : decode cX11_spellWord 52 = .ok (.iconst 4, 1) := by decide +kernel
theorem dX11_spellWord_53 : decode cX11_spellWord 53 = .ok (.goto 4, 3) := by decide +kernel
theorem dX11_spellWord_56 : decode cX11_spellWord 56 = .ok (.iconst (-1), 1) := by decide +kernel
theorem dX11_spellWord_57 : decode cX11_spellWord 57 = .ok (.ireturn, 1) := by decide +kernel
theorem dX11_wordOf_0 : decode cX11_wordOf 0 = .ok (.aload_n 0, 1) := by decide +kernel
theorem dX11_wordOf_1 : decode cX11_wordOf 1 = .ok (.invokevirtual 88, 3) := by decide +kernel
theorem dX11_wordOf_4 : decode cX11_wordOf 4 = .ok (.istore_n 1, 1) := by decide +kernel
theorem dX11_wordOf_5 : decode cX11_wordOf 5 = .ok (.iload_n 1, 1) := by decide +kernel
theorem dX11_wordOf_6 : decode cX11_wordOf 6 = .ok (.iconst (-1), 1) := by decide +kernel
theorem dX11_wordOf_7 : decode cX11_wordOf 7 = .ok (.if_icmp .eq 7, 3) := by decide +kernel
theorem dX11_wordOf_10 : decode cX11_wordOf 10 = .ok (.iload_n 1, 1) := by decide +kernel
theorem dX11_wordOf_11 : decode cX11_wordOf 11 = .ok (.goto 64, 3) := by decide +kernel
theorem dX11_wordOf_14 : decode cX11_wordOf 14 = .ok (.aload_n 0, 1) := by decide +kernel
theorem dX11_wordOf_15 : decode cX11_wordOf 15 = .ok (.ldc 92, 2) := by decide +kernel
theorem dX11_wordOf_17 : decode cX11_wordOf 17 = .ok (.iconst 4, 1) := by decide +kernel
theorem dX11_wordOf_18 : decode cX11_wordOf 18 = .ok (.invokevirtual 81, 3) := by decide +kernel
theorem dX11_wordOf_21 : decode cX11_wordOf 21 = .ok (.ifCond .eq 7, 3) := by decide +kernel
theorem dX11_wordOf_24 : decode cX11_wordOf 24 = .ok (.iconst 0, 1) := by decide +kernel
theorem dX11_wordOf_25 : decode cX11_wordOf 25 = .ok (.goto 50, 3) := by decide +kernel
theorem dX11_wordOf_28 : decode cX11_wordOf 28 = .ok (.aload_n 0, 1) := by decide +kernel
theorem dX11_wordOf_29 : decode cX11_wordOf 29 = .ok (.sipush 25636, 3) := by decide +kernel
theorem dX11_wordOf_32 : decode cX11_wordOf 32 = .ok (.iconst 3, 1) := by decide +kernel
theorem dX11_wordOf_33 : decode cX11_wordOf 33 = .ok (.invokevirtual 81, 3) := by decide +kernel
theorem dX11_wordOf_36 : decode cX11_wordOf 36 = .ok (.ifCond .eq 7, 3) := by decide +kernel
theorem dX11_wordOf_39 : decode cX11_wordOf 39 = .ok (.iconst 5, 1) := by decide +kernel
theorem dX11_wordOf_40 : decode cX11_wordOf 40 = .ok (.goto 35, 3) := by decide +kernel
theorem dX11_wordOf_43 : decode cX11_wordOf 43 = .ok (.aload_n 0, 1) := by decide +kernel
theorem dX11_wordOf_44 : decode cX11_wordOf 44 = .ok (.ldc 93, 2) := by decide +kernel
theorem dX11_wordOf_46 : decode cX11_wordOf 46 = .ok (.bipush 6, 2) := by decide +kernel
theorem dX11_wordOf_48 : decode cX11_wordOf 48 = .ok (.invokevirtual 81, 3) := by decide +kernel
theorem dX11_wordOf_51 : decode cX11_wordOf 51 = .ok (.ifCond .eq 8, 3) := by decide +kernel
theorem dX11_wordOf_54 : decode cX11_wordOf 54 = .ok (.bipush 6, 2) := by decide +kernel
theorem dX11_wordOf_56 : decode cX11_wordOf 56 = .ok (.goto 19, 3) := by decide +kernel
theorem dX11_wordOf_59 : decode cX11_wordOf 59 = .ok (.aload_n 0, 1) := by decide +kernel
theorem dX11_wordOf_60 : decode cX11_wordOf 60 = .ok (.ldc 94, 2) := by decide +kernel
theorem dX11_wordOf_62 : decode cX11_wordOf 62 = .ok (.iconst 4, 1) := by decide +kernel
theorem dX11_wordOf_63 : decode cX11_wordOf 63 = .ok (.invokevirtual 81, 3) := by decide +kernel
theorem dX11_wordOf_66 : decode cX11_wordOf 66 = .ok (.ifCond .eq 8, 3) := by decide +kernel
theorem dX11_wordOf_69 : decode cX11_wordOf 69 = .ok (.bipush 7, 2) := by decide +kernel
theorem dX11_wordOf_71 : decode cX11_wordOf 71 = .ok (.goto 4, 3) := by decide +kernel
theorem dX11_wordOf_74 : decode cX11_wordOf 74 = .ok (.iconst (-1), 1) := by decide +kernel
theorem dX11_wordOf_75 : decode cX11_wordOf 75 = .ok (.ireturn, 1) := by decide +kernel
theorem dX11_termWord_0 : decode cX11_termWord 0 = .ok (.aload_n 0, 1) := by decide +kernel
theorem dX11_termWord_1 : decode cX11_termWord 1 = .ok (.ldc 95, 2) := by decide +kernel
theorem dX11_termWord_3 : decode cX11_termWord 3 = .ok (.iconst 4, 1) := by decide +kernel
theorem dX11_termWord_4 : decode cX11_termWord 4 = .ok (.invokevirtual 81, 3) := by decide +kernel
theorem dX11_termWord_7 : decode cX11_termWord 7 = .ok (.ifCond .eq 7, 3) := by decide +kernel
theorem dX11_termWord_10 : decode cX11_termWord 10 = .ok (.iconst 0, 1) := by decide +kernel
theorem dX11_termWord_11 : decode cX11_termWord 11 = .ok (.goto 106, 3) := by decide +kernel
theorem dX11_termWord_14 : decode cX11_termWord 14 = .ok (.aload_n 0, 1) := by decide +kernel
theorem dX11_termWord_15 : decode cX11_termWord 15 = .ok (.ldc 96, 2) := by decide +kernel
theorem dX11_termWord_17 : decode cX11_termWord 17 = .ok (.iconst 4, 1) := by decide +kernel
theorem dX11_termWord_18 : decode cX11_termWord 18 = .ok (.invokevirtual 81, 3) := by decide +kernel
theorem dX11_termWord_21 : decode cX11_termWord 21 = .ok (.ifCond .eq 7, 3) := by decide +kernel
theorem dX11_termWord_24 : decode cX11_termWord 24 = .ok (.iconst 1, 1) := by decide +kernel
theorem dX11_termWord_25 : decode cX11_termWord 25 = .ok (.goto 92, 3) := by decide +kernel
theorem dX11_termWord_28 : decode cX11_termWord 28 = .ok (.aload_n 0, 1) := by decide +kernel
theorem dX11_termWord_29 : decode cX11_termWord 29 = .ok (.sipush 25636, 3) := by decide +kernel
theorem dX11_termWord_32 : decode cX11_termWord 32 = .ok (.iconst 3, 1) := by decide +kernel
theorem dX11_termWord_33 : decode cX11_termWord 33 = .ok (.invokevirtual 81, 3) := by decide +kernel
theorem dX11_termWord_36 : decode cX11_termWord 36 = .ok (.ifCond .eq 7, 3) := by decide +kernel
theorem dX11_termWord_39 : decode cX11_termWord 39 = .ok (.iconst 2, 1) := by decide +kernel
theorem dX11_termWord_40 : decode cX11_termWord 40 = .ok (.goto 77, 3) := by decide +kernel
theorem dX11_termWord_43 : decode cX11_termWord 43 = .ok (.aload_n 0, 1) := by decide +kernel
theorem dX11_termWord_44 : decode cX11_termWord 44 = .ok (.ldc 97, 2) := by decide +kernel
theorem dX11_termWord_46 : decode cX11_termWord 46 = .ok (.iconst 5, 1) := by decide +kernel
theorem dX11_termWord_47 : decode cX11_termWord 47 = .ok (.invokevirtual 81, 3) := by decide +kernel
theorem dX11_termWord_50 : decode cX11_termWord 50 = .ok (.ifCond .eq 7, 3) := by decide +kernel
theorem dX11_termWord_53 : decode cX11_termWord 53 = .ok (.iconst 3, 1) := by decide +kernel
theorem dX11_termWord_54 : decode cX11_termWord 54 = .ok (.goto 63, 3) := by decide +kernel
theorem dX11_termWord_57 : decode cX11_termWord 57 = .ok (.aload_n 0, 1) := by decide +kernel
theorem dX11_termWord_58 : decode cX11_termWord 58 = .ok (.ldc 98, 2) := by decide +kernel
theorem dX11_termWord_60 : decode cX11_termWord 60 = .ok (.iconst 4, 1) := by decide +kernel
theorem dX11_termWord_61 : decode cX11_termWord 61 = .ok (.invokevirtual 81, 3) := by decide +kernel
theorem dX11_termWord_64 : decode cX11_termWord 64 = .ok (.ifCond .eq 7, 3) := by decide +kernel
theorem dX11_termWord_67 : decode cX11_termWord 67 = .ok (.iconst 4, 1) := by decide +kernel
theorem dX11_termWord_68 : decode cX11_termWord 68 = .ok (.goto 49, 3) := by decide +kernel
theorem dX11_termWord_71 : decode cX11_termWord 71 = .ok (.aload_n 0, 1) := by decide +kernel
theorem dX11_termWord_72 : decode cX11_termWord 72 = .ok (.ldc 93, 2) := by decide +kernel
theorem dX11_termWord_74 : decode cX11_termWord 74 = .ok (.bipush 6, 2) := by decide +kernel
theorem dX11_termWord_76 : decode cX11_termWord 76 = .ok (.invokevirtual 81, 3) := by decide +kernel
theorem dX11_termWord_79 : decode cX11_termWord 79 = .ok (.ifCond .eq 7, 3) := by decide +kernel
theorem dX11_termWord_82 : decode cX11_termWord 82 = .ok (.iconst 5, 1) := by decide +kernel
theorem dX11_termWord_83 : decode cX11_termWord 83 = .ok (.goto 34, 3) := by decide +kernel
theorem dX11_termWord_86 : decode cX11_termWord 86 = .ok (.aload_n 0, 1) := by decide +kernel
theorem dX11_termWord_87 : decode cX11_termWord 87 = .ok (.ldc 99, 2) := by decide +kernel
theorem dX11_termWord_89 : decode cX11_termWord 89 = .ok (.iconst 5, 1) := by decide +kernel
theorem dX11_termWord_90 : decode cX11_termWord 90 = .ok (.invokevirtual 81, 3) := by decide +kernel
theorem dX11_termWord_93 : decode cX11_termWord 93 = .ok (.ifCond .eq 8, 3) := by decide +kernel
theorem dX11_termWord_96 : decode cX11_termWord 96 = .ok (.bipush 6, 2) := by decide +kernel
theorem dX11_termWord_98 : decode cX11_termWord 98 = .ok (.goto 19, 3) := by decide +kernel
theorem dX11_termWord_101 : decode cX11_termWord 101 = .ok (.aload_n 0, 1) := by decide +kernel
theorem dX11_termWord_102 : decode cX11_termWord 102 = .ok (.ldc 100, 2) := by decide +kernel
theorem dX11_termWord_104 : decode cX11_termWord 104 = .ok (.iconst 5, 1) := by decide +kernel
theorem dX11_termWord_105 : decode cX11_termWord 105 = .ok (.invokevirtual 81, 3) := by decide +kernel
theorem dX11_termWord_108 : decode cX11_termWord 108 = .ok (.ifCond .eq 8, 3) := by decide +kernel
theorem dX11_termWord_111 : decode cX11_termWord 111 = .ok (.bipush 7, 2) := by decide +kernel
theorem dX11_termWord_113 : decode cX11_termWord 113 = .ok (.goto 4, 3) := by decide +kernel
theorem dX11_termWord_116 : decode cX11_termWord 116 = .ok (.iconst (-1), 1) := by decide +kernel
theorem dX11_termWord_117 : decode cX11_termWord 117 = .ok (.ireturn, 1) := by decide +kernel
theorem dX11_reads_0 : decode cX11_reads 0 = .ok (.aload_n 0, 1) := by decide +kernel
theorem dX11_reads_1 : decode cX11_reads 1 = .ok (.getfield 70, 3) := by decide +kernel
theorem dX11_reads_4 : decode cX11_reads 4 = .ok (.aload_n 0, 1) := by decide +kernel
theorem dX11_reads_5 : decode cX11_reads 5 = .ok (.getfield 64, 3) := by decide +kernel
theorem dX11_reads_8 : decode cX11_reads 8 = .ok (.if_icmp .ge 36, 3) := by decide +kernel
theorem dX11_reads_11 : decode cX11_reads 11 = .ok (.aload_n 0, 1) := by decide +kernel
theorem dX11_reads_12 : decode cX11_reads 12 = .ok (.getfield 7, 3) := by decide +kernel
theorem dX11_reads_15 : decode cX11_reads 15 = .ok (.aload_n 0, 1) := by decide +kernel
theorem dX11_reads_16 : decode cX11_reads 16 = .ok (.getfield 70, 3) := by decide +kernel
theorem dX11_reads_19 : decode cX11_reads 19 = .ok (.iaload, 1) := by decide +kernel
theorem dX11_reads_20 : decode cX11_reads 20 = .ok (.invokestatic 73, 3) := by decide +kernel
theorem dX11_reads_23 : decode cX11_reads 23 = .ok (.iconst 2, 1) := by decide +kernel
theorem dX11_reads_24 : decode cX11_reads 24 = .ok (.if_icmp .ne 20, 3) := by decide +kernel
theorem dX11_reads_27 : decode cX11_reads 27 = .ok (.aload_n 0, 1) := by decide +kernel
theorem dX11_reads_28 : decode cX11_reads 28 = .ok (.getfield 77, 3) := by decide +kernel
theorem dX11_reads_31 : decode cX11_reads 31 = .ok (.aload_n 0, 1) := by decide +kernel
theorem dX11_reads_32 : decode cX11_reads 32 = .ok (.getfield 70, 3) := by decide +kernel
theorem dX11_reads_35 : decode cX11_reads 35 = .ok (.isub, 1) := by decide +kernel
theorem dX11_reads_36 : decode cX11_reads 36 = .ok (.iconst 1, 1) := by decide +kernel
theorem dX11_reads_37 : decode cX11_reads 37 = .ok (.if_icmp .ne 7, 3) := by decide +kernel
theorem dX11_reads_40 : decode cX11_reads 40 = .ok (.iconst 1, 1) := by decide +kernel
theorem dX11_reads_41 : decode cX11_reads 41 = .ok (.goto 4, 3) := by decide +kernel
theorem dX11_reads_44 : decode cX11_reads 44 = .ok (.iconst 0, 1) := by decide +kernel
theorem dX11_reads_45 : decode cX11_reads 45 = .ok (.istore 4, 2) := by decide +kernel
theorem dX11_reads_47 : decode cX11_reads 47 = .ok (.iload 4, 2) := by decide +kernel
theorem dX11_reads_49 : decode cX11_reads 49 = .ok (.ifCond .eq 18, 3) := by decide +kernel
theorem dX11_reads_52 : decode cX11_reads 52 = .ok (.aload_n 0, 1) := by decide +kernel
theorem dX11_reads_53 : decode cX11_reads 53 = .ok (.getfield 7, 3) := by decide +kernel
theorem dX11_reads_56 : decode cX11_reads 56 = .ok (.aload_n 0, 1) := by decide +kernel
theorem dX11_reads_57 : decode cX11_reads 57 = .ok (.getfield 70, 3) := by decide +kernel
theorem dX11_reads_60 : decode cX11_reads 60 = .ok (.iaload, 1) := by decide +kernel
theorem dX11_reads_61 : decode cX11_reads 61 = .ok (.bipush 48, 2) := by decide +kernel
theorem dX11_reads_63 : decode cX11_reads 63 = .ok (.isub, 1) := by decide +kernel
theorem dX11_reads_64 : decode cX11_reads 64 = .ok (.goto 4, 3) := by decide +kernel
theorem dX11_reads_67 : decode cX11_reads 67 = .ok (.iconst (-1), 1) := by decide +kernel
theorem dX11_reads_68 : decode cX11_reads 68 = .ok (.istore 5, 2) := by decide +kernel
theorem dX11_reads_70 : decode cX11_reads 70 = .ok (.iload 4, 2) := by decide +kernel
theorem dX11_reads_72 : decode cX11_reads 72 = .ok (.ifCond .eq 16, 3) := by decide +kernel
theorem dX11_reads_75 : decode cX11_reads 75 = .ok (.iload 5, 2) := by decide +kernel
theorem dX11_reads_77 : decode cX11_reads 77 = .ok (.i2l, 1) := by decide +kernel
theorem dX11_reads_78 : decode cX11_reads 78 = .ok (.iload_n 2, 1) := by decide +kernel
theorem dX11_reads_79 : decode cX11_reads 79 = .ok (.i2l, 1) := by decide +kernel
theorem dX11_reads_80 : decode cX11_reads 80 = .ok (.iload_n 3, 1) := by decide +kernel
theorem dX11_reads_81 : decode cX11_reads 81 = .ok (.i2l, 1) := by decide +kernel
theorem dX11_reads_82 : decode cX11_reads 82 = .ok (.invokestatic 60, 3) := by decide +kernel
theorem dX11_reads_85 : decode cX11_reads 85 = .ok (.ifCond .ne 5, 3) := by decide +kernel
theorem dX11_reads_88 : decode cX11_reads 88 = .ok (.iconst 0, 1) := by decide +kernel
theorem dX11_reads_89 : decode cX11_reads 89 = .ok (.ireturn, 1) := by decide +kernel
theorem dX11_reads_90 : decode cX11_reads 90 = .ok (.aload_n 0, 1) := by decide +kernel
theorem dX11_reads_91 : decode cX11_reads 91 = .ok (.getfield 13, 3) := by decide +kernel
theorem dX11_reads_94 : decode cX11_reads 94 = .ok (.bipush 10, 2) := by decide +kernel
theorem dX11_reads_96 : decode cX11_reads 96 = .ok (.aload_n 0, 1) := by decide +kernel
theorem dX11_reads_97 : decode cX11_reads 97 = .ok (.getfield 101, 3) := by decide +kernel
theorem dX11_reads_100 : decode cX11_reads 100 = .ok (.imul, 1) := by decide +kernel
theorem dX11_reads_101 : decode cX11_reads 101 = .ok (.iload_n 1, 1) := by decide +kernel
theorem dX11_reads_102 : decode cX11_reads 102 = .ok (.iadd, 1) := by decide +kernel
theorem dX11_reads_103 : decode cX11_reads 103 = .ok (.iload 5, 2) := by decide +kernel
theorem dX11_reads_105 : decode cX11_reads 105 = .ok (.iastore, 1) := by decide +kernel
theorem dX11_reads_106 : decode cX11_reads 106 = .ok (.aload_n 0, 1) := by decide +kernel
theorem dX11_reads_107 : decode cX11_reads 107 = .ok (.invokevirtual 104, 3) := by decide +kernel
theorem dX11_reads_110 : decode cX11_reads 110 = .ok (.iconst 1, 1) := by decide +kernel
theorem dX11_reads_111 : decode cX11_reads 111 = .ok (.ireturn, 1) := by decide +kernel
theorem dX11_readsTerm_0 : decode cX11_readsTerm 0 = .ok (.aload_n 0, 1) := by decide +kernel
theorem dX11_readsTerm_1 : decode cX11_readsTerm 1 = .ok (.invokevirtual 107, 3) := by decide +kernel
theorem dX11_readsTerm_4 : decode cX11_readsTerm 4 = .ok (.istore_n 2, 1) := by decide +kernel
theorem dX11_readsTerm_5 : decode cX11_readsTerm 5 = .ok (.iload_n 2, 1) := by decide +kernel
theorem dX11_readsTerm_6 : decode cX11_readsTerm 6 = .ok (.iconst (-1), 1) := by decide +kernel
theorem dX11_readsTerm_7 : decode cX11_readsTerm 7 = .ok (.if_icmp .ne 5, 3) := by decide +kernel
theorem dX11_readsTerm_10 : decode cX11_readsTerm 10 = .ok (.iconst 0, 1) := by decide +kernel
theorem dX11_readsTerm_11 : decode cX11_readsTerm 11 = .ok (.ireturn, 1) := by decide +kernel
theorem dX11_readsTerm_12 : decode cX11_readsTerm 12 = .ok (.aload_n 0, 1) := by decide +kernel
theorem dX11_readsTerm_13 : decode cX11_readsTerm 13 = .ok (.invokevirtual 104, 3) := by decide +kernel
theorem dX11_readsTerm_16 : decode cX11_readsTerm 16 = .ok (.aload_n 0, 1) := by decide +kernel
theorem dX11_readsTerm_17 : decode cX11_readsTerm 17 = .ok (.getfield 13, 3) := by decide +kernel
theorem dX11_readsTerm_20 : decode cX11_readsTerm 20 = .ok (.bipush 10, 2) := by decide +kernel
theorem dX11_readsTerm_22 : decode cX11_readsTerm 22 = .ok (.aload_n 0, 1) := by decide +kernel
theorem dX11_readsTerm_23 : decode cX11_readsTerm 23 = .ok (.getfield 101, 3) := by decide +kernel
theorem dX11_readsTerm_26 : decode cX11_readsTerm 26 = .ok (.imul, 1) := by decide +kernel
theorem dX11_readsTerm_27 : decode cX11_readsTerm 27 = .ok (.iconst 3, 1) := by decide +kernel
theorem dX11_readsTerm_28 : decode cX11_readsTerm 28 = .ok (.iadd, 1) := by decide +kernel
theorem dX11_readsTerm_29 : decode cX11_readsTerm 29 = .ok (.iconst 2, 1) := by decide +kernel
theorem dX11_readsTerm_30 : decode cX11_readsTerm 30 = .ok (.iload_n 1, 1) := by decide +kernel
theorem dX11_readsTerm_31 : decode cX11_readsTerm 31 = .ok (.imul, 1) := by decide +kernel
theorem dX11_readsTerm_32 : decode cX11_readsTerm 32 = .ok (.iadd, 1) := by decide +kernel
theorem dX11_readsTerm_33 : decode cX11_readsTerm 33 = .ok (.iload_n 2, 1) := by decide +kernel
theorem dX11_readsTerm_34 : decode cX11_readsTerm 34 = .ok (.iastore, 1) := by decide +kernel
theorem dX11_readsTerm_35 : decode cX11_readsTerm 35 = .ok (.iload_n 2, 1) := by decide +kernel
theorem dX11_readsTerm_36 : decode cX11_readsTerm 36 = .ok (.bipush 7, 2) := by decide +kernel
theorem dX11_readsTerm_38 : decode cX11_readsTerm 38 = .ok (.if_icmp .ne 7, 3) := by decide +kernel
theorem dX11_readsTerm_41 : decode cX11_readsTerm 41 = .ok (.iconst 1, 1) := by decide +kernel
theorem dX11_readsTerm_42 : decode cX11_readsTerm 42 = .ok (.goto 4, 3) := by decide +kernel
theorem dX11_readsTerm_45 : decode cX11_readsTerm 45 = .ok (.iconst 0, 1) := by decide +kernel
theorem dX11_readsTerm_46 : decode cX11_readsTerm 46 = .ok (.istore_n 3, 1) := by decide +kernel
theorem dX11_readsTerm_47 : decode cX11_readsTerm 47 = .ok (.iload_n 2, 1) := by decide +kernel
theorem dX11_readsTerm_48 : decode cX11_readsTerm 48 = .ok (.ifCond .eq 8, 3) := by decide +kernel
theorem dX11_readsTerm_51 : decode cX11_readsTerm 51 = .ok (.iload_n 2, 1) := by decide +kernel
theorem dX11_readsTerm_52 : decode cX11_readsTerm 52 = .ok (.iconst 1, 1) := by decide +kernel
theorem dX11_readsTerm_53 : decode cX11_readsTerm 53 = .ok (.if_icmp .ne 12, 3) := by decide +kernel
theorem dX11_readsTerm_56 : decode cX11_readsTerm 56 = .ok (.aload_n 0, 1) := by decide +kernel
theorem dX11_readsTerm_57 : decode cX11_readsTerm 57 = .ok (.getfield 110, 3) := by decide +kernel
theorem dX11_readsTerm_60 : decode cX11_readsTerm 60 = .ok (.iconst 1, 1) := by decide +kernel
theorem dX11_readsTerm_61 : decode cX11_readsTerm 61 = .ok (.isub, 1) := by decide +kernel
theorem dX11_readsTerm_62 : decode cX11_readsTerm 62 = .ok (.goto 42, 3) := by decide +kernel
theorem dX11_readsTerm_65 : decode cX11_readsTerm 65 = .ok (.iload_n 2, 1) := by decide +kernel
theorem dX11_readsTerm_66 : decode cX11_readsTerm 66 = .ok (.iconst 2, 1) := by decide +kernel
theorem dX11_readsTerm_67 : decode cX11_readsTerm 67 = .ok (.if_icmp .ne 8, 3) := by decide +kernel
theorem dX11_readsTerm_70 : decode cX11_readsTerm 70 = .ok (.bipush 6, 2) := by decide +kernel
theorem dX11_readsTerm_72 : decode cX11_readsTerm 72 = .ok (.goto 32, 3) := by decide +kernel
theorem dX11_readsTerm_75 : decode cX11_readsTerm 75 = .ok (.iload_n 2, 1) := by decide +kernel
theorem dX11_readsTerm_76 : decode cX11_readsTerm 76 = .ok (.iconst 3, 1) := by decide +kernel
theorem dX11_readsTerm_77 : decode cX11_readsTerm 77 = .ok (.if_icmp .eq 8, 3) := by decide +kernel
theorem dX11_readsTerm_80 : decode cX11_readsTerm 80 = .ok (.iload_n 2, 1) := by decide +kernel
theorem dX11_readsTerm_81 : decode cX11_readsTerm 81 = .ok (.iconst 4, 1) := by decide +kernel
theorem dX11_readsTerm_82 : decode cX11_readsTerm 82 = .ok (.if_icmp .ne 10, 3) := by decide +kernel
theorem dX11_readsTerm_85 : decode cX11_readsTerm 85 = .ok (.aload_n 0, 1) := by decide +kernel
theorem dX11_readsTerm_86 : decode cX11_readsTerm 86 = .ok (.getfield 113, 3) := by decide +kernel
theorem dX11_readsTerm_89 : decode cX11_readsTerm 89 = .ok (.goto 15, 3) := by decide +kernel
theorem dX11_readsTerm_92 : decode cX11_readsTerm 92 = .ok (.iload_n 2, 1) := by decide +kernel
theorem dX11_readsTerm_93 : decode cX11_readsTerm 93 = .ok (.bipush 7, 2) := by decide +kernel
theorem dX11_readsTerm_95 : decode cX11_readsTerm 95 = .ok (.if_icmp .ne 8, 3) := by decide +kernel
theorem dX11_readsTerm_98 : decode cX11_readsTerm 98 = .ok (.bipush 7, 2) := by decide +kernel
theorem dX11_readsTerm_100 : decode cX11_readsTerm 100 = .ok (.goto 4, 3) := by decide +kernel
theorem dX11_readsTerm_103 : decode cX11_readsTerm 103 = .ok (.iconst 1, 1) := by decide +kernel
theorem dX11_readsTerm_104 : decode cX11_readsTerm 104 = .ok (.istore 4, 2) := by decide +kernel
theorem dX11_readsTerm_106 : decode cX11_readsTerm 106 = .ok (.aload_n 0, 1) := by decide +kernel
theorem dX11_readsTerm_107 : decode cX11_readsTerm 107 = .ok (.iconst 4, 1) := by decide +kernel
theorem dX11_readsTerm_108 : decode cX11_readsTerm 108 = .ok (.iconst 2, 1) := by decide +kernel
theorem dX11_readsTerm_109 : decode cX11_readsTerm 109 = .ok (.iload_n 1, 1) := by decide +kernel
theorem dX11_readsTerm_110 : decode cX11_readsTerm 110 = .ok (.imul, 1) := by decide +kernel
theorem dX11_readsTerm_111 : decode cX11_readsTerm 111 = .ok (.iadd, 1) := by decide +kernel
theorem dX11_readsTerm_112 : decode cX11_readsTerm 112 = .ok (.iload_n 3, 1) := by decide +kernel
theorem dX11_readsTerm_113 : decode cX11_readsTerm 113 = .ok (.iload 4, 2) := by decide +kernel
theorem dX11_readsTerm_115 : decode cX11_readsTerm 115 = .ok (.invokevirtual 116, 3) := by decide +kernel
theorem dX11_readsTerm_118 : decode cX11_readsTerm 118 = .ok (.ireturn, 1) := by decide +kernel
theorem dX11_readsSpell_0 : decode cX11_readsSpell 0 = .ok (.bipush 10, 2) := by decide +kernel
theorem dX11_readsSpell_2 : decode cX11_readsSpell 2 = .ok (.aload_n 0, 1) := by decide +kernel
theorem dX11_readsSpell_3 : decode cX11_readsSpell 3 = .ok (.getfield 101, 3) := by decide +kernel
theorem dX11_readsSpell_6 : decode cX11_readsSpell 6 = .ok (.imul, 1) := by decide +kernel
theorem dX11_readsSpell_7 : decode cX11_readsSpell 7 = .ok (.istore_n 2, 1) := by decide +kernel
theorem dX11_readsSpell_8 : decode cX11_readsSpell 8 = .ok (.aload_n 0, 1) := by decide +kernel
theorem dX11_readsSpell_9 : decode cX11_readsSpell 9 = .ok (.iconst 1, 1) := by decide +kernel
theorem dX11_readsSpell_10 : decode cX11_readsSpell 10 = .ok (.iconst 0, 1) := by decide +kernel
theorem dX11_readsSpell_11 : decode cX11_readsSpell 11 = .ok (.iload_n 1, 1) := by decide +kernel
theorem dX11_readsSpell_12 : decode cX11_readsSpell 12 = .ok (.iconst 4, 1) := by decide +kernel
theorem dX11_readsSpell_13 : decode cX11_readsSpell 13 = .ok (.if_icmp .ne 12, 3) := by decide +kernel
theorem dX11_readsSpell_16 : decode cX11_readsSpell 16 = .ok (.aload_n 0, 1) := by decide +kernel
theorem dX11_readsSpell_17 : decode cX11_readsSpell 17 = .ok (.getfield 113, 3) := by decide +kernel
theorem dX11_readsSpell_20 : decode cX11_readsSpell 20 = .ok (.iconst 1, 1) := by decide +kernel
theorem dX11_readsSpell_21 : decode cX11_readsSpell 21 = .ok (.isub, 1) := by decide +kernel
theorem dX11_readsSpell_22 : decode cX11_readsSpell 22 = .ok (.goto 9, 3) := by decide +kernel
theorem dX11_readsSpell_25 : decode cX11_readsSpell 25 = .ok (.aload_n 0, 1) := by decide +kernel
theorem dX11_readsSpell_26 : decode cX11_readsSpell 26 = .ok (.getfield 110, 3) := by decide +kernel
theorem dX11_readsSpell_29 : decode cX11_readsSpell 29 = .ok (.iconst 1, 1) := by decide +kernel
theorem dX11_readsSpell_30 : decode cX11_readsSpell 30 = .ok (.isub, 1) := by decide +kernel
theorem dX11_readsSpell_31 : decode cX11_readsSpell 31 = .ok (.invokevirtual 116, 3) := by decide +kernel
theorem dX11_readsSpell_34 : decode cX11_readsSpell 34 = .ok (.ifCond .eq 14, 3) := by decide +kernel
theorem dX11_readsSpell_37 : decode cX11_readsSpell 37 = .ok (.aload_n 0, 1) := by decide +kernel
theorem dX11_readsSpell_38 : decode cX11_readsSpell 38 = .ok (.sipush 201, 3) := by decide +kernel
theorem dX11_readsSpell_41 : decode cX11_readsSpell 41 = .ok (.iconst 2, 1) := by decide +kernel
theorem dX11_readsSpell_42 : decode cX11_readsSpell 42 = .ok (.invokevirtual 81, 3) := by decide +kernel
theorem dX11_readsSpell_45 : decode cX11_readsSpell 45 = .ok (.ifCond .ne 5, 3) := by decide +kernel
theorem dX11_readsSpell_48 : decode cX11_readsSpell 48 = .ok (.iconst 0, 1) := by decide +kernel
theorem dX11_readsSpell_49 : decode cX11_readsSpell 49 = .ok (.ireturn, 1) := by decide +kernel
theorem dX11_readsSpell_50 : decode cX11_readsSpell 50 = .ok (.aload_n 0, 1) := by decide +kernel
theorem dX11_readsSpell_51 : decode cX11_readsSpell 51 = .ok (.invokevirtual 104, 3) := by decide +kernel
theorem dX11_readsSpell_54 : decode cX11_readsSpell 54 = .ok (.aload_n 0, 1) := by decide +kernel
theorem dX11_readsSpell_55 : decode cX11_readsSpell 55 = .ok (.iconst 0, 1) := by decide +kernel
theorem dX11_readsSpell_56 : decode cX11_readsSpell 56 = .ok (.invokevirtual 120, 3) := by decide +kernel
theorem dX11_readsSpell_59 : decode cX11_readsSpell 59 = .ok (.ifCond .ne 5, 3) := by decide +kernel
theorem dX11_readsSpell_62 : decode cX11_readsSpell 62 = .ok (.iconst 0, 1) := by decide +kernel
theorem dX11_readsSpell_63 : decode cX11_readsSpell 63 = .ok (.ireturn, 1) := by decide +kernel
theorem dX11_readsSpell_64 : decode cX11_readsSpell 64 = .ok (.iconst 1, 1) := by decide +kernel
theorem dX11_readsSpell_65 : decode cX11_readsSpell 65 = .ok (.istore_n 3, 1) := by decide +kernel
theorem dX11_readsSpell_66 : decode cX11_readsSpell 66 = .ok (.iload_n 3, 1) := by decide +kernel
theorem dX11_readsSpell_67 : decode cX11_readsSpell 67 = .ok (.iconst 3, 1) := by decide +kernel
theorem dX11_readsSpell_68 : decode cX11_readsSpell 68 = .ok (.if_icmp .ge 34, 3) := by decide +kernel
theorem dX11_readsSpell_71 : decode cX11_readsSpell 71 = .ok (.aload_n 0, 1) := by decide +kernel
theorem dX11_readsSpell_72 : decode cX11_readsSpell 72 = .ok (.sipush 4545, 3) := by decide +kernel
theorem dX11_readsSpell_75 : decode cX11_readsSpell 75 = .ok (.iconst 3, 1) := by decide +kernel
theorem dX11_readsSpell_76 : decode cX11_readsSpell 76 = .ok (.invokevirtual 81, 3) := by decide +kernel
theorem dX11_readsSpell_79 : decode cX11_readsSpell 79 = .ok (.ifCond .eq 23, 3) := by decide +kernel
theorem dX11_readsSpell_82 : decode cX11_readsSpell 82 = .ok (.aload_n 0, 1) := by decide +kernel
theorem dX11_readsSpell_83 : decode cX11_readsSpell 83 = .ok (.invokevirtual 104, 3) := by decide +kernel
theorem dX11_readsSpell_86 : decode cX11_readsSpell 86 = .ok (.aload_n 0, 1) := by decide +kernel
theorem dX11_readsSpell_87 : decode cX11_readsSpell 87 = .ok (.iload_n 3, 1) := by decide +kernel
theorem dX11_readsSpell_88 : decode cX11_readsSpell 88 = .ok (.invokevirtual 120, 3) := by decide +kernel
theorem dX11_readsSpell_91 : decode cX11_readsSpell 91 = .ok (.ifCond .ne 5, 3) := by decide +kernel
theorem dX11_readsSpell_94 : decode cX11_readsSpell 94 = .ok (.iconst 0, 1) := by decide +kernel
theorem dX11_readsSpell_95 : decode cX11_readsSpell 95 = .ok (.ireturn, 1) := by decide +kernel
theorem dX11_readsSpell_96 : decode cX11_readsSpell 96 = .ok (.iinc 3 1, 3) := by decide +kernel
theorem dX11_readsSpell_99 : decode cX11_readsSpell 99 = .ok (.goto (-33), 3) := by decide +kernel
theorem dX11_readsSpell_102 : decode cX11_readsSpell 102 = .ok (.aload_n 0, 1) := by decide +kernel
theorem dX11_readsSpell_103 : decode cX11_readsSpell 103 = .ok (.getfield 13, 3) := by decide +kernel
theorem dX11_readsSpell_106 : decode cX11_readsSpell 106 = .ok (.iload_n 2, 1) := by decide +kernel
theorem dX11_readsSpell_107 : decode cX11_readsSpell 107 = .ok (.iconst 2, 1) := by decide +kernel
theorem dX11_readsSpell_108 : decode cX11_readsSpell 108 = .ok (.iadd, 1) := by decide +kernel
theorem dX11_readsSpell_109 : decode cX11_readsSpell 109 = .ok (.iload_n 3, 1) := by decide +kernel
theorem dX11_readsSpell_110 : decode cX11_readsSpell 110 = .ok (.iastore, 1) := by decide +kernel
theorem dX11_readsSpell_111 : decode cX11_readsSpell 111 = .ok (.aload_n 0, 1) := by decide +kernel
theorem dX11_readsSpell_112 : decode cX11_readsSpell 112 = .ok (.getfield 13, 3) := by decide +kernel
theorem dX11_readsSpell_115 : decode cX11_readsSpell 115 = .ok (.iload_n 2, 1) := by decide +kernel
theorem dX11_readsSpell_116 : decode cX11_readsSpell 116 = .ok (.bipush 9, 2) := by decide +kernel
theorem dX11_readsSpell_118 : decode cX11_readsSpell 118 = .ok (.iadd, 1) := by decide +kernel
theorem dX11_readsSpell_119 : decode cX11_readsSpell 119 = .ok (.iconst (-1), 1) := by decide +kernel
theorem dX11_readsSpell_120 : decode cX11_readsSpell 120 = .ok (.iastore, 1) := by decide +kernel
theorem dX11_readsSpell_121 : decode cX11_readsSpell 121 = .ok (.aload_n 0, 1) := by decide +kernel
theorem dX11_readsSpell_122 : decode cX11_readsSpell 122 = .ok (.ldc 124, 2) := by decide +kernel
theorem dX11_readsSpell_124 : decode cX11_readsSpell 124 = .ok (.iconst 5, 1) := by decide +kernel
theorem dX11_readsSpell_125 : decode cX11_readsSpell 125 = .ok (.invokevirtual 81, 3) := by decide +kernel
theorem dX11_readsSpell_128 : decode cX11_readsSpell 128 = .ok (.ifCond .eq 19, 3) := by decide +kernel
theorem dX11_readsSpell_131 : decode cX11_readsSpell 131 = .ok (.aload_n 0, 1) := by decide +kernel
theorem dX11_readsSpell_132 : decode cX11_readsSpell 132 = .ok (.invokevirtual 104, 3) := by decide +kernel
theorem dX11_readsSpell_135 : decode cX11_readsSpell 135 = .ok (.aload_n 0, 1) := by decide +kernel
theorem dX11_readsSpell_136 : decode cX11_readsSpell 136 = .ok (.bipush 9, 2) := by decide +kernel
theorem dX11_readsSpell_138 : decode cX11_readsSpell 138 = .ok (.iconst 0, 1) := by decide +kernel
theorem dX11_readsSpell_139 : decode cX11_readsSpell 139 = .ok (.aload_n 0, 1) := by decide +kernel
theorem dX11_readsSpell_140 : decode cX11_readsSpell 140 = .ok (.getfield 113, 3) := by decide +kernel
theorem dX11_readsSpell_143 : decode cX11_readsSpell 143 = .ok (.invokevirtual 116, 3) := by decide +kernel
theorem dX11_readsSpell_146 : decode cX11_readsSpell 146 = .ok (.ireturn, 1) := by decide +kernel
theorem dX11_readsSpell_147 : decode cX11_readsSpell 147 = .ok (.iconst 1, 1) := by decide +kernel
theorem dX11_readsSpell_148 : decode cX11_readsSpell 148 = .ok (.ireturn, 1) := by decide +kernel
theorem dX11_readsRest_0 : decode cX11_readsRest 0 = .ok (.iload_n 1, 1) := by decide +kernel
theorem dX11_readsRest_1 : decode cX11_readsRest 1 = .ok (.tableswitch 74 0 7 #[47, 74, 74, 74, 74, 55, 64, 72], 47) := by decide +kernel
theorem dX11_readsRest_48 : decode cX11_readsRest 48 = .ok (.aload_n 0, 1) := by decide +kernel
theorem dX11_readsRest_49 : decode cX11_readsRest 49 = .ok (.iconst 1, 1) := by decide +kernel
theorem dX11_readsRest_50 : decode cX11_readsRest 50 = .ok (.iconst 1, 1) := by decide +kernel
theorem dX11_readsRest_51 : decode cX11_readsRest 51 = .ok (.iconst 3, 1) := by decide +kernel
theorem dX11_readsRest_52 : decode cX11_readsRest 52 = .ok (.invokevirtual 116, 3) := by decide +kernel
theorem dX11_readsRest_55 : decode cX11_readsRest 55 = .ok (.ireturn, 1) := by decide +kernel
theorem dX11_readsRest_56 : decode cX11_readsRest 56 = .ok (.aload_n 0, 1) := by decide +kernel
theorem dX11_readsRest_57 : decode cX11_readsRest 57 = .ok (.iconst 1, 1) := by decide +kernel
theorem dX11_readsRest_58 : decode cX11_readsRest 58 = .ok (.iconst 0, 1) := by decide +kernel
theorem dX11_readsRest_59 : decode cX11_readsRest 59 = .ok (.bipush 6, 2) := by decide +kernel
theorem dX11_readsRest_61 : decode cX11_readsRest 61 = .ok (.invokevirtual 116, 3) := by decide +kernel
theorem dX11_readsRest_64 : decode cX11_readsRest 64 = .ok (.ireturn, 1) := by decide +kernel
theorem dX11_readsRest_65 : decode cX11_readsRest 65 = .ok (.aload_n 0, 1) := by decide +kernel
theorem dX11_readsRest_66 : decode cX11_readsRest 66 = .ok (.iconst 1, 1) := by decide +kernel
theorem dX11_readsRest_67 : decode cX11_readsRest 67 = .ok (.iconst 0, 1) := by decide +kernel
theorem dX11_readsRest_68 : decode cX11_readsRest 68 = .ok (.iconst 1, 1) := by decide +kernel
theorem dX11_readsRest_69 : decode cX11_readsRest 69 = .ok (.invokevirtual 116, 3) := by decide +kernel
theorem dX11_readsRest_72 : decode cX11_readsRest 72 = .ok (.ireturn, 1) := by decide +kernel
theorem dX11_readsRest_73 : decode cX11_readsRest 73 = .ok (.iconst 1, 1) := by decide +kernel
theorem dX11_readsRest_74 : decode cX11_readsRest 74 = .ok (.ireturn, 1) := by decide +kernel
theorem dX11_readsRest_75 : decode cX11_readsRest 75 = .ok (.aload_n 0, 1) := by decide +kernel
theorem dX11_readsRest_76 : decode cX11_readsRest 76 = .ok (.iload_n 1, 1) := by decide +kernel
theorem dX11_readsRest_77 : decode cX11_readsRest 77 = .ok (.invokevirtual 125, 3) := by decide +kernel
theorem dX11_readsRest_80 : decode cX11_readsRest 80 = .ok (.ireturn, 1) := by decide +kernel
theorem dX11_readsLine_0 : decode cX11_readsLine 0 = .ok (.aload_n 0, 1) := by decide +kernel
theorem dX11_readsLine_1 : decode cX11_readsLine 1 = .ok (.invokevirtual 128, 3) := by decide +kernel
theorem dX11_readsLine_4 : decode cX11_readsLine 4 = .ok (.istore_n 1, 1) := by decide +kernel
theorem dX11_readsLine_5 : decode cX11_readsLine 5 = .ok (.iload_n 1, 1) := by decide +kernel
theorem dX11_readsLine_6 : decode cX11_readsLine 6 = .ok (.i2l, 1) := by decide +kernel
theorem dX11_readsLine_7 : decode cX11_readsLine 7 = .ok (.lconst 1, 1) := by decide +kernel
theorem dX11_readsLine_8 : decode cX11_readsLine 8 = .ok (.ldc2_w 131, 3) := by decide +kernel
theorem dX11_readsLine_11 : decode cX11_readsLine 11 = .ok (.invokestatic 60, 3) := by decide +kernel
theorem dX11_readsLine_14 : decode cX11_readsLine 14 = .ok (.istore_n 2, 1) := by decide +kernel
theorem dX11_readsLine_15 : decode cX11_readsLine 15 = .ok (.iload_n 1, 1) := by decide +kernel
theorem dX11_readsLine_16 : decode cX11_readsLine 16 = .ok (.iconst (-1), 1) := by decide +kernel
theorem dX11_readsLine_17 : decode cX11_readsLine 17 = .ok (.if_icmp .eq 15, 3) := by decide +kernel
theorem dX11_readsLine_20 : decode cX11_readsLine 20 = .ok (.iload_n 2, 1) := by decide +kernel
theorem dX11_readsLine_21 : decode cX11_readsLine 21 = .ok (.ifCond .eq 13, 3) := by decide +kernel
theorem dX11_readsLine_24 : decode cX11_readsLine 24 = .ok (.aload_n 0, 1) := by decide +kernel
theorem dX11_readsLine_25 : decode cX11_readsLine 25 = .ok (.getfield 113, 3) := by decide +kernel
theorem dX11_readsLine_28 : decode cX11_readsLine 28 = .ok (.iconst 5, 1) := by decide +kernel
theorem dX11_readsLine_29 : decode cX11_readsLine 29 = .ok (.if_icmp .ne 5, 3) := by decide +kernel
theorem dX11_readsLine_32 : decode cX11_readsLine 32 = .ok (.iconst 0, 1) := by decide +kernel
theorem dX11_readsLine_33 : decode cX11_readsLine 33 = .ok (.ireturn, 1) := by decide +kernel
theorem dX11_readsLine_34 : decode cX11_readsLine 34 = .ok (.aload_n 0, 1) := by decide +kernel
theorem dX11_readsLine_35 : decode cX11_readsLine 35 = .ok (.invokevirtual 104, 3) := by decide +kernel
theorem dX11_readsLine_38 : decode cX11_readsLine 38 = .ok (.aload_n 0, 1) := by decide +kernel
theorem dX11_readsLine_39 : decode cX11_readsLine 39 = .ok (.getfield 13, 3) := by decide +kernel
theorem dX11_readsLine_42 : decode cX11_readsLine 42 = .ok (.bipush 10, 2) := by decide +kernel
theorem dX11_readsLine_44 : decode cX11_readsLine 44 = .ok (.aload_n 0, 1) := by decide +kernel
theorem dX11_readsLine_45 : decode cX11_readsLine 45 = .ok (.getfield 101, 3) := by decide +kernel
theorem dX11_readsLine_48 : decode cX11_readsLine 48 = .ok (.imul, 1) := by decide +kernel
theorem dX11_readsLine_49 : decode cX11_readsLine 49 = .ok (.iload_n 1, 1) := by decide +kernel
theorem dX11_readsLine_50 : decode cX11_readsLine 50 = .ok (.iastore, 1) := by decide +kernel
theorem dX11_readsLine_51 : decode cX11_readsLine 51 = .ok (.aload_n 0, 1) := by decide +kernel
theorem dX11_readsLine_52 : decode cX11_readsLine 52 = .ok (.iload_n 1, 1) := by decide +kernel
theorem dX11_readsLine_53 : decode cX11_readsLine 53 = .ok (.invokevirtual 133, 3) := by decide +kernel
theorem dX11_readsLine_56 : decode cX11_readsLine 56 = .ok (.ifCond .ne 5, 3) := by decide +kernel
theorem dX11_readsLine_59 : decode cX11_readsLine 59 = .ok (.iconst 0, 1) := by decide +kernel
theorem dX11_readsLine_60 : decode cX11_readsLine 60 = .ok (.ireturn, 1) := by decide +kernel
theorem dX11_readsLine_61 : decode cX11_readsLine 61 = .ok (.aload_n 0, 1) := by decide +kernel
theorem dX11_readsLine_62 : decode cX11_readsLine 62 = .ok (.iload_n 1, 1) := by decide +kernel
theorem dX11_readsLine_63 : decode cX11_readsLine 63 = .ok (.ifCond .ne 20, 3) := by decide +kernel
theorem dX11_readsLine_66 : decode cX11_readsLine 66 = .ok (.aload_n 0, 1) := by decide +kernel
theorem dX11_readsLine_67 : decode cX11_readsLine 67 = .ok (.getfield 13, 3) := by decide +kernel
theorem dX11_readsLine_70 : decode cX11_readsLine 70 = .ok (.bipush 10, 2) := by decide +kernel
theorem dX11_readsLine_72 : decode cX11_readsLine 72 = .ok (.aload_n 0, 1) := by decide +kernel
theorem dX11_readsLine_73 : decode cX11_readsLine 73 = .ok (.getfield 101, 3) := by decide +kernel
theorem dX11_readsLine_76 : decode cX11_readsLine 76 = .ok (.imul, 1) := by decide +kernel
theorem dX11_readsLine_77 : decode cX11_readsLine 77 = .ok (.iconst 1, 1) := by decide +kernel
theorem dX11_readsLine_78 : decode cX11_readsLine 78 = .ok (.iadd, 1) := by decide +kernel
theorem dX11_readsLine_79 : decode cX11_readsLine 79 = .ok (.iaload, 1) := by decide +kernel
theorem dX11_readsLine_80 : decode cX11_readsLine 80 = .ok (.goto 7, 3) := by decide +kernel
theorem dX11_readsLine_83 : decode cX11_readsLine 83 = .ok (.aload_n 0, 1) := by decide +kernel
theorem dX11_readsLine_84 : decode cX11_readsLine 84 = .ok (.getfield 110, 3) := by decide +kernel
theorem dX11_readsLine_87 : decode cX11_readsLine 87 = .ok (.putfield 110, 3) := by decide +kernel
theorem dX11_readsLine_90 : decode cX11_readsLine 90 = .ok (.aload_n 0, 1) := by decide +kernel
theorem dX11_readsLine_91 : decode cX11_readsLine 91 = .ok (.iload_n 1, 1) := by decide +kernel
theorem dX11_readsLine_92 : decode cX11_readsLine 92 = .ok (.ifCond .eq 9, 3) := by decide +kernel
theorem dX11_readsLine_95 : decode cX11_readsLine 95 = .ok (.iload_n 1, 1) := by decide +kernel
theorem dX11_readsLine_96 : decode cX11_readsLine 96 = .ok (.bipush 7, 2) := by decide +kernel
theorem dX11_readsLine_98 : decode cX11_readsLine 98 = .ok (.if_icmp .ne 7, 3) := by decide +kernel
theorem dX11_readsLine_101 : decode cX11_readsLine 101 = .ok (.iconst 0, 1) := by decide +kernel
theorem dX11_readsLine_102 : decode cX11_readsLine 102 = .ok (.goto 20, 3) := by decide +kernel
theorem dX11_readsLine_105 : decode cX11_readsLine 105 = .ok (.iload_n 2, 1) := by decide +kernel
theorem dX11_readsLine_106 : decode cX11_readsLine 106 = .ok (.ifCond .eq 12, 3) := by decide +kernel
theorem dX11_readsLine_109 : decode cX11_readsLine 109 = .ok (.aload_n 0, 1) := by decide +kernel
theorem dX11_readsLine_110 : decode cX11_readsLine 110 = .ok (.getfield 113, 3) := by decide +kernel
theorem dX11_readsLine_113 : decode cX11_readsLine 113 = .ok (.iconst 1, 1) := by decide +kernel
theorem dX11_readsLine_114 : decode cX11_readsLine 114 = .ok (.iadd, 1) := by decide +kernel
theorem dX11_readsLine_115 : decode cX11_readsLine 115 = .ok (.goto 7, 3) := by decide +kernel
theorem dX11_readsLine_118 : decode cX11_readsLine 118 = .ok (.aload_n 0, 1) := by decide +kernel
theorem dX11_readsLine_119 : decode cX11_readsLine 119 = .ok (.getfield 113, 3) := by decide +kernel
theorem dX11_readsLine_122 : decode cX11_readsLine 122 = .ok (.putfield 113, 3) := by decide +kernel
theorem dX11_readsLine_125 : decode cX11_readsLine 125 = .ok (.aload_n 0, 1) := by decide +kernel
theorem dX11_readsLine_126 : decode cX11_readsLine 126 = .ok (.dup, 1) := by decide +kernel
theorem dX11_readsLine_127 : decode cX11_readsLine 127 = .ok (.getfield 101, 3) := by decide +kernel
theorem dX11_readsLine_130 : decode cX11_readsLine 130 = .ok (.iconst 1, 1) := by decide +kernel
theorem dX11_readsLine_131 : decode cX11_readsLine 131 = .ok (.iadd, 1) := by decide +kernel
theorem dX11_readsLine_132 : decode cX11_readsLine 132 = .ok (.putfield 101, 3) := by decide +kernel
theorem dX11_readsLine_135 : decode cX11_readsLine 135 = .ok (.iconst 1, 1) := by decide +kernel
theorem dX11_readsLine_136 : decode cX11_readsLine 136 = .ok (.ireturn, 1) := by decide +kernel
theorem dX11_fault_0 : decode cX11_fault 0 = .ok (.aload_n 0, 1) := by decide +kernel
theorem dX11_fault_1 : decode cX11_fault 1 = .ok (.iconst 0, 1) := by decide +kernel
theorem dX11_fault_2 : decode cX11_fault 2 = .ok (.putfield 67, 3) := by decide +kernel
theorem dX11_fault_5 : decode cX11_fault 5 = .ok (.aload_n 0, 1) := by decide +kernel
theorem dX11_fault_6 : decode cX11_fault 6 = .ok (.iconst 0, 1) := by decide +kernel
theorem dX11_fault_7 : decode cX11_fault 7 = .ok (.putfield 101, 3) := by decide +kernel
theorem dX11_fault_10 : decode cX11_fault 10 = .ok (.aload_n 0, 1) := by decide +kernel
theorem dX11_fault_11 : decode cX11_fault 11 = .ok (.aload_n 0, 1) := by decide +kernel
theorem dX11_fault_12 : decode cX11_fault 12 = .ok (.getfield 16, 3) := by decide +kernel
theorem dX11_fault_15 : decode cX11_fault 15 = .ok (.putfield 110, 3) := by decide +kernel
theorem dX11_fault_18 : decode cX11_fault 18 = .ok (.aload_n 0, 1) := by decide +kernel
theorem dX11_fault_19 : decode cX11_fault 19 = .ok (.aload_n 0, 1) := by decide +kernel
theorem dX11_fault_20 : decode cX11_fault 20 = .ok (.getfield 136, 3) := by decide +kernel
theorem dX11_fault_23 : decode cX11_fault 23 = .ok (.putfield 113, 3) := by decide +kernel
theorem dX11_fault_26 : decode cX11_fault 26 = .ok (.aload_n 0, 1) := by decide +kernel
theorem dX11_fault_27 : decode cX11_fault 27 = .ok (.invokevirtual 104, 3) := by decide +kernel
theorem dX11_fault_30 : decode cX11_fault 30 = .ok (.aload_n 0, 1) := by decide +kernel
theorem dX11_fault_31 : decode cX11_fault 31 = .ok (.invokevirtual 139, 3) := by decide +kernel
theorem dX11_fault_34 : decode cX11_fault 34 = .ok (.ifCond .ne 8, 3) := by decide +kernel
theorem dX11_fault_37 : decode cX11_fault 37 = .ok (.aload_n 0, 1) := by decide +kernel
theorem dX11_fault_38 : decode cX11_fault 38 = .ok (.getfield 70, 3) := by decide +kernel
theorem dX11_fault_41 : decode cX11_fault 41 = .ok (.ireturn, 1) := by decide +kernel
theorem dX11_fault_42 : decode cX11_fault 42 = .ok (.aload_n 0, 1) := by decide +kernel
theorem dX11_fault_43 : decode cX11_fault 43 = .ok (.getfield 70, 3) := by decide +kernel
theorem dX11_fault_46 : decode cX11_fault 46 = .ok (.aload_n 0, 1) := by decide +kernel
theorem dX11_fault_47 : decode cX11_fault 47 = .ok (.getfield 64, 3) := by decide +kernel
theorem dX11_fault_50 : decode cX11_fault 50 = .ok (.if_icmp .ge 70, 3) := by decide +kernel
theorem dX11_fault_53 : decode cX11_fault 53 = .ok (.aload_n 0, 1) := by decide +kernel
theorem dX11_fault_54 : decode cX11_fault 54 = .ok (.getfield 77, 3) := by decide +kernel
theorem dX11_fault_57 : decode cX11_fault 57 = .ok (.aload_n 0, 1) := by decide +kernel
theorem dX11_fault_58 : decode cX11_fault 58 = .ok (.getfield 70, 3) := by decide +kernel
theorem dX11_fault_61 : decode cX11_fault 61 = .ok (.isub, 1) := by decide +kernel
theorem dX11_fault_62 : decode cX11_fault 62 = .ok (.iconst 1, 1) := by decide +kernel
theorem dX11_fault_63 : decode cX11_fault 63 = .ok (.if_icmp .ne 30, 3) := by decide +kernel
theorem dX11_fault_66 : decode cX11_fault 66 = .ok (.aload_n 0, 1) := by decide +kernel
theorem dX11_fault_67 : decode cX11_fault 67 = .ok (.getfield 7, 3) := by decide +kernel
theorem dX11_fault_70 : decode cX11_fault 70 = .ok (.aload_n 0, 1) := by decide +kernel
theorem dX11_fault_71 : decode cX11_fault 71 = .ok (.getfield 70, 3) := by decide +kernel
theorem dX11_fault_74 : decode cX11_fault 74 = .ok (.iaload, 1) := by decide +kernel
theorem dX11_fault_75 : decode cX11_fault 75 = .ok (.bipush 59, 2) := by decide +kernel
theorem dX11_fault_77 : decode cX11_fault 77 = .ok (.if_icmp .ne 16, 3) := by decide +kernel
theorem dX11_fault_80 : decode cX11_fault 80 = .ok (.aload_n 0, 1) := by decide +kernel
theorem dX11_fault_81 : decode cX11_fault 81 = .ok (.getfield 101, 3) := by decide +kernel
theorem dX11_fault_84 : decode cX11_fault 84 = .ok (.bipush 12, 2) := by decide +kernel
theorem dX11_fault_86 : decode cX11_fault 86 = .ok (.if_icmp .ge 7, 3) := by decide +kernel
theorem dX11_fault_89 : decode cX11_fault 89 = .ok (.iconst 1, 1) := by decide +kernel
theorem dX11_fault_90 : decode cX11_fault 90 = .ok (.goto 4, 3) := by decide +kernel
theorem dX11_fault_93 : decode cX11_fault 93 = .ok (.iconst 0, 1) := by decide +kernel
theorem dX11_fault_94 : decode cX11_fault 94 = .ok (.istore_n 1, 1) := by decide +kernel
theorem dX11_fault_95 : decode cX11_fault 95 = .ok (.iload_n 1, 1) := by decide +kernel
theorem dX11_fault_96 : decode cX11_fault 96 = .ok (.ifCond .eq 12, 3) := by decide +kernel
theorem dX11_fault_99 : decode cX11_fault 99 = .ok (.aload_n 0, 1) := by decide +kernel
theorem dX11_fault_100 : decode cX11_fault 100 = .ok (.invokevirtual 104, 3) := by decide +kernel
theorem dX11_fault_103 : decode cX11_fault 103 = .ok (.aload_n 0, 1) := by decide +kernel
theorem dX11_fault_104 : decode cX11_fault 104 = .ok (.invokevirtual 139, 3) := by decide +kernel
theorem dX11_fault_107 : decode cX11_fault 107 = .ok (.istore_n 1, 1) := by decide +kernel
theorem dX11_fault_108 : decode cX11_fault 108 = .ok (.iload_n 1, 1) := by decide +kernel
theorem dX11_fault_109 : decode cX11_fault 109 = .ok (.ifCond .ne 8, 3) := by decide +kernel
theorem dX11_fault_112 : decode cX11_fault 112 = .ok (.aload_n 0, 1) := by decide +kernel
theorem dX11_fault_113 : decode cX11_fault 113 = .ok (.getfield 70, 3) := by decide +kernel
theorem dX11_fault_116 : decode cX11_fault 116 = .ok (.ireturn, 1) := by decide +kernel
theorem dX11_fault_117 : decode cX11_fault 117 = .ok (.goto (-75), 3) := by decide +kernel
theorem dX11_fault_120 : decode cX11_fault 120 = .ok (.iconst (-1), 1) := by decide +kernel
theorem dX11_fault_121 : decode cX11_fault 121 = .ok (.ireturn, 1) := by decide +kernel
theorem dX11_tell_0 : decode cX11_tell 0 = .ok (.aload_n 0, 1) := by decide +kernel
theorem dX11_tell_1 : decode cX11_tell 1 = .ok (.getfield 13, 3) := by decide +kernel
theorem dX11_tell_4 : decode cX11_tell 4 = .ok (.iload_n 1, 1) := by decide +kernel
theorem dX11_tell_5 : decode cX11_tell 5 = .ok (.iconst 1, 1) := by decide +kernel
theorem dX11_tell_6 : decode cX11_tell 6 = .ok (.iadd, 1) := by decide +kernel
theorem dX11_tell_7 : decode cX11_tell 7 = .ok (.iaload, 1) := by decide +kernel
theorem dX11_tell_8 : decode cX11_tell 8 = .ok (.istore_n 2, 1) := by decide +kernel
theorem dX11_tell_9 : decode cX11_tell 9 = .ok (.aload_n 0, 1) := by decide +kernel
theorem dX11_tell_10 : decode cX11_tell 10 = .ok (.getfield 13, 3) := by decide +kernel
theorem dX11_tell_13 : decode cX11_tell 13 = .ok (.iload_n 1, 1) := by decide +kernel
theorem dX11_tell_14 : decode cX11_tell 14 = .ok (.iaload, 1) := by decide +kernel
theorem dX11_tell_15 : decode cX11_tell 15 = .ok (.tableswitch 91 0 7 #[45, 91, 91, 91, 91, 66, 72, 85], 45) := by decide +kernel
theorem dX11_tell_60 : decode cX11_tell 60 = .ok (.aload_n 0, 1) := by decide +kernel
theorem dX11_tell_61 : decode cX11_tell 61 = .ok (.iload_n 2, 1) := by decide +kernel
theorem dX11_tell_62 : decode cX11_tell 62 = .ok (.putfield 16, 3) := by decide +kernel
theorem dX11_tell_65 : decode cX11_tell 65 = .ok (.aload_n 0, 1) := by decide +kernel
theorem dX11_tell_66 : decode cX11_tell 66 = .ok (.iconst 0, 1) := by decide +kernel
theorem dX11_tell_67 : decode cX11_tell 67 = .ok (.putfield 136, 3) := by decide +kernel
theorem dX11_tell_70 : decode cX11_tell 70 = .ok (.aload_n 0, 1) := by decide +kernel
theorem dX11_tell_71 : decode cX11_tell 71 = .ok (.iconst 0, 1) := by decide +kernel
theorem dX11_tell_72 : decode cX11_tell 72 = .ok (.putfield 143, 3) := by decide +kernel
theorem dX11_tell_75 : decode cX11_tell 75 = .ok (.aload_n 0, 1) := by decide +kernel
theorem dX11_tell_76 : decode cX11_tell 76 = .ok (.iconst 0, 1) := by decide +kernel
theorem dX11_tell_77 : decode cX11_tell 77 = .ok (.putfield 146, 3) := by decide +kernel
theorem dX11_tell_80 : decode cX11_tell 80 = .ok (.return_, 1) := by decide +kernel
theorem dX11_tell_81 : decode cX11_tell 81 = .ok (.aload_n 0, 1) := by decide +kernel
theorem dX11_tell_82 : decode cX11_tell 82 = .ok (.iload_n 2, 1) := by decide +kernel
theorem dX11_tell_83 : decode cX11_tell 83 = .ok (.putfield 143, 3) := by decide +kernel
theorem dX11_tell_86 : decode cX11_tell 86 = .ok (.return_, 1) := by decide +kernel
theorem dX11_tell_87 : decode cX11_tell 87 = .ok (.aload_n 0, 1) := by decide +kernel
theorem dX11_tell_88 : decode cX11_tell 88 = .ok (.dup, 1) := by decide +kernel
theorem dX11_tell_89 : decode cX11_tell 89 = .ok (.getfield 146, 3) := by decide +kernel
theorem dX11_tell_92 : decode cX11_tell 92 = .ok (.iconst 1, 1) := by decide +kernel
theorem dX11_tell_93 : decode cX11_tell 93 = .ok (.iload_n 2, 1) := by decide +kernel
theorem dX11_tell_94 : decode cX11_tell 94 = .ok (.ishl, 1) := by decide +kernel
theorem dX11_tell_95 : decode cX11_tell 95 = .ok (.ior, 1) := by decide +kernel
theorem dX11_tell_96 : decode cX11_tell 96 = .ok (.putfield 146, 3) := by decide +kernel
theorem dX11_tell_99 : decode cX11_tell 99 = .ok (.return_, 1) := by decide +kernel
theorem dX11_tell_100 : decode cX11_tell 100 = .ok (.aload_n 0, 1) := by decide +kernel
theorem dX11_tell_101 : decode cX11_tell 101 = .ok (.iconst 0, 1) := by decide +kernel
theorem dX11_tell_102 : decode cX11_tell 102 = .ok (.putfield 136, 3) := by decide +kernel
theorem dX11_tell_105 : decode cX11_tell 105 = .ok (.return_, 1) := by decide +kernel
theorem dX11_tell_106 : decode cX11_tell 106 = .ok (.iconst 0, 1) := by decide +kernel
theorem dX11_tell_107 : decode cX11_tell 107 = .ok (.istore_n 3, 1) := by decide +kernel
theorem dX11_tell_108 : decode cX11_tell 108 = .ok (.iload_n 3, 1) := by decide +kernel
theorem dX11_tell_109 : decode cX11_tell 109 = .ok (.bipush 10, 2) := by decide +kernel
theorem dX11_tell_111 : decode cX11_tell 111 = .ok (.if_icmp .ge 31, 3) := by decide +kernel
theorem dX11_tell_114 : decode cX11_tell 114 = .ok (.aload_n 0, 1) := by decide +kernel
theorem dX11_tell_115 : decode cX11_tell 115 = .ok (.getfield 20, 3) := by decide +kernel
theorem dX11_tell_118 : decode cX11_tell 118 = .ok (.bipush 10, 2) := by decide +kernel
theorem dX11_tell_120 : decode cX11_tell 120 = .ok (.aload_n 0, 1) := by decide +kernel
theorem dX11_tell_121 : decode cX11_tell 121 = .ok (.getfield 136, 3) := by decide +kernel
theorem dX11_tell_124 : decode cX11_tell 124 = .ok (.imul, 1) := by decide +kernel
theorem dX11_tell_125 : decode cX11_tell 125 = .ok (.iload_n 3, 1) := by decide +kernel
theorem dX11_tell_126 : decode cX11_tell 126 = .ok (.iadd, 1) := by decide +kernel
theorem dX11_tell_127 : decode cX11_tell 127 = .ok (.aload_n 0, 1) := by decide +kernel
theorem dX11_tell_128 : decode cX11_tell 128 = .ok (.getfield 13, 3) := by decide +kernel
theorem dX11_tell_131 : decode cX11_tell 131 = .ok (.iload_n 1, 1) := by decide +kernel
theorem dX11_tell_132 : decode cX11_tell 132 = .ok (.iload_n 3, 1) := by decide +kernel
theorem dX11_tell_133 : decode cX11_tell 133 = .ok (.iadd, 1) := by decide +kernel
theorem dX11_tell_134 : decode cX11_tell 134 = .ok (.iaload, 1) := by decide +kernel
theorem dX11_tell_135 : decode cX11_tell 135 = .ok (.iastore, 1) := by decide +kernel
theorem dX11_tell_136 : decode cX11_tell 136 = .ok (.iinc 3 1, 3) := by decide +kernel
theorem dX11_tell_139 : decode cX11_tell 139 = .ok (.goto (-31), 3) := by decide +kernel
theorem dX11_tell_142 : decode cX11_tell 142 = .ok (.aload_n 0, 1) := by decide +kernel
theorem dX11_tell_143 : decode cX11_tell 143 = .ok (.getfield 20, 3) := by decide +kernel
theorem dX11_tell_146 : decode cX11_tell 146 = .ok (.bipush 10, 2) := by decide +kernel
theorem dX11_tell_148 : decode cX11_tell 148 = .ok (.aload_n 0, 1) := by decide +kernel
theorem dX11_tell_149 : decode cX11_tell 149 = .ok (.getfield 136, 3) := by decide +kernel
theorem dX11_tell_152 : decode cX11_tell 152 = .ok (.imul, 1) := by decide +kernel
theorem dX11_tell_153 : decode cX11_tell 153 = .ok (.aload_n 0, 1) := by decide +kernel
theorem dX11_tell_154 : decode cX11_tell 154 = .ok (.getfield 13, 3) := by decide +kernel
theorem dX11_tell_157 : decode cX11_tell 157 = .ok (.iload_n 1, 1) := by decide +kernel
theorem dX11_tell_158 : decode cX11_tell 158 = .ok (.iaload, 1) := by decide +kernel
theorem dX11_tell_159 : decode cX11_tell 159 = .ok (.iconst 1, 1) := by decide +kernel
theorem dX11_tell_160 : decode cX11_tell 160 = .ok (.isub, 1) := by decide +kernel
theorem dX11_tell_161 : decode cX11_tell 161 = .ok (.iastore, 1) := by decide +kernel
theorem dX11_tell_162 : decode cX11_tell 162 = .ok (.aload_n 0, 1) := by decide +kernel
theorem dX11_tell_163 : decode cX11_tell 163 = .ok (.dup, 1) := by decide +kernel
theorem dX11_tell_164 : decode cX11_tell 164 = .ok (.getfield 136, 3) := by decide +kernel
theorem dX11_tell_167 : decode cX11_tell 167 = .ok (.iconst 1, 1) := by decide +kernel
theorem dX11_tell_168 : decode cX11_tell 168 = .ok (.iadd, 1) := by decide +kernel
theorem dX11_tell_169 : decode cX11_tell 169 = .ok (.putfield 136, 3) := by decide +kernel
theorem dX11_tell_172 : decode cX11_tell 172 = .ok (.return_, 1) := by decide +kernel
theorem dX11_land_0 : decode cX11_land 0 = .ok (.aload_n 0, 1) := by decide +kernel
theorem dX11_land_1 : decode cX11_land 1 = .ok (.invokevirtual 149, 3) := by decide +kernel
theorem dX11_land_4 : decode cX11_land 4 = .ok (.iconst (-1), 1) := by decide +kernel
theorem dX11_land_5 : decode cX11_land 5 = .ok (.if_icmp .eq 6, 3) := by decide +kernel
theorem dX11_land_8 : decode cX11_land 8 = .ok (.bipush (-4), 2) := by decide +kernel
theorem dX11_land_10 : decode cX11_land 10 = .ok (.ireturn, 1) := by decide +kernel
theorem dX11_land_11 : decode cX11_land 11 = .ok (.iconst 0, 1) := by decide +kernel
theorem dX11_land_12 : decode cX11_land 12 = .ok (.istore_n 1, 1) := by decide +kernel
theorem dX11_land_13 : decode cX11_land 13 = .ok (.iload_n 1, 1) := by decide +kernel
theorem dX11_land_14 : decode cX11_land 14 = .ok (.aload_n 0, 1) := by decide +kernel
theorem dX11_land_15 : decode cX11_land 15 = .ok (.getfield 101, 3) := by decide +kernel
theorem dX11_land_18 : decode cX11_land 18 = .ok (.if_icmp .ge 17, 3) := by decide +kernel
theorem dX11_land_21 : decode cX11_land 21 = .ok (.aload_n 0, 1) := by decide +kernel
theorem dX11_land_22 : decode cX11_land 22 = .ok (.bipush 10, 2) := by decide +kernel
theorem dX11_land_24 : decode cX11_land 24 = .ok (.iload_n 1, 1) := by decide +kernel
theorem dX11_land_25 : decode cX11_land 25 = .ok (.imul, 1) := by decide +kernel
theorem dX11_land_26 : decode cX11_land 26 = .ok (.invokevirtual 152, 3) := by decide +kernel
theorem dX11_land_29 : decode cX11_land 29 = .ok (.iinc 1 1, 3) := by decide +kernel
theorem dX11_land_32 : decode cX11_land 32 = .ok (.goto (-19), 3) := by decide +kernel
theorem dX11_land_35 : decode cX11_land 35 = .ok (.aload_n 0, 1) := by decide +kernel
theorem dX11_land_36 : decode cX11_land 36 = .ok (.iconst 1, 1) := by decide +kernel
theorem dX11_land_37 : decode cX11_land 37 = .ok (.aload_n 0, 1) := by decide +kernel
theorem dX11_land_38 : decode cX11_land 38 = .ok (.getfield 136, 3) := by decide +kernel
theorem dX11_land_41 : decode cX11_land 41 = .ok (.ishl, 1) := by decide +kernel
theorem dX11_land_42 : decode cX11_land 42 = .ok (.iconst 1, 1) := by decide +kernel
theorem dX11_land_43 : decode cX11_land 43 = .ok (.isub, 1) := by decide +kernel
theorem dX11_land_44 : decode cX11_land 44 = .ok (.aload_n 0, 1) := by decide +kernel
theorem dX11_land_45 : decode cX11_land 45 = .ok (.getfield 146, 3) := by decide +kernel
theorem dX11_land_48 : decode cX11_land 48 = .ok (.iconst 5, 1) := by decide +kernel
theorem dX11_land_49 : decode cX11_land 49 = .ok (.ishl, 1) := by decide +kernel
theorem dX11_land_50 : decode cX11_land 50 = .ok (.ior, 1) := by decide +kernel
theorem dX11_land_51 : decode cX11_land 51 = .ok (.aload_n 0, 1) := by decide +kernel
theorem dX11_land_52 : decode cX11_land 52 = .ok (.getfield 143, 3) := by decide +kernel
theorem dX11_land_55 : decode cX11_land 55 = .ok (.bipush 13, 2) := by decide +kernel
theorem dX11_land_57 : decode cX11_land 57 = .ok (.ishl, 1) := by decide +kernel
theorem dX11_land_58 : decode cX11_land 58 = .ok (.ior, 1) := by decide +kernel
theorem dX11_land_59 : decode cX11_land 59 = .ok (.putfield 156, 3) := by decide +kernel
theorem dX11_land_62 : decode cX11_land 62 = .ok (.aload_n 0, 1) := by decide +kernel
theorem dX11_land_63 : decode cX11_land 63 = .ok (.iconst 0, 1) := by decide +kernel
theorem dX11_land_64 : decode cX11_land 64 = .ok (.putfield 159, 3) := by decide +kernel
theorem dX11_land_67 : decode cX11_land 67 = .ok (.aload_n 0, 1) := by decide +kernel
theorem dX11_land_68 : decode cX11_land 68 = .ok (.iconst 0, 1) := by decide +kernel
theorem dX11_land_69 : decode cX11_land 69 = .ok (.putfield 162, 3) := by decide +kernel
theorem dX11_land_72 : decode cX11_land 72 = .ok (.aload_n 0, 1) := by decide +kernel
theorem dX11_land_73 : decode cX11_land 73 = .ok (.getfield 32, 3) := by decide +kernel
theorem dX11_land_76 : decode cX11_land 76 = .ok (.iconst 0, 1) := by decide +kernel
theorem dX11_land_77 : decode cX11_land 77 = .ok (.iconst 0, 1) := by decide +kernel
theorem dX11_land_78 : decode cX11_land 78 = .ok (.bastore, 1) := by decide +kernel
theorem dX11_land_79 : decode cX11_land 79 = .ok (.aload_n 0, 1) := by decide +kernel
theorem dX11_land_80 : decode cX11_land 80 = .ok (.getfield 32, 3) := by decide +kernel
theorem dX11_land_83 : decode cX11_land 83 = .ok (.iconst 1, 1) := by decide +kernel
theorem dX11_land_84 : decode cX11_land 84 = .ok (.iconst 0, 1) := by decide +kernel
theorem dX11_land_85 : decode cX11_land 85 = .ok (.bastore, 1) := by decide +kernel
theorem dX11_land_86 : decode cX11_land 86 = .ok (.aload_n 0, 1) := by decide +kernel
theorem dX11_land_87 : decode cX11_land 87 = .ok (.iconst 0, 1) := by decide +kernel
theorem dX11_land_88 : decode cX11_land 88 = .ok (.putfield 165, 3) := by decide +kernel
theorem dX11_land_91 : decode cX11_land 91 = .ok (.aload_n 0, 1) := by decide +kernel
theorem dX11_land_92 : decode cX11_land 92 = .ok (.iconst 0, 1) := by decide +kernel
theorem dX11_land_93 : decode cX11_land 93 = .ok (.putfield 168, 3) := by decide +kernel
theorem dX11_land_96 : decode cX11_land 96 = .ok (.aload_n 0, 1) := by decide +kernel
theorem dX11_land_97 : decode cX11_land 97 = .ok (.iconst 0, 1) := by decide +kernel
theorem dX11_land_98 : decode cX11_land 98 = .ok (.putfield 171, 3) := by decide +kernel
theorem dX11_land_101 : decode cX11_land 101 = .ok (.aload_n 0, 1) := by decide +kernel
theorem dX11_land_102 : decode cX11_land 102 = .ok (.iconst 0, 1) := by decide +kernel
theorem dX11_land_103 : decode cX11_land 103 = .ok (.putfield 64, 3) := by decide +kernel
theorem dX11_land_106 : decode cX11_land 106 = .ok (.aload_n 0, 1) := by decide +kernel
theorem dX11_land_107 : decode cX11_land 107 = .ok (.getfield 101, 3) := by decide +kernel
theorem dX11_land_110 : decode cX11_land 110 = .ok (.ireturn, 1) := by decide +kernel
theorem dX11_holdsOf_0 : decode cX11_holdsOf 0 = .ok (.iload_n 0, 1) := by decide +kernel
theorem dX11_holdsOf_1 : decode cX11_holdsOf 1 = .ok (.bipush 31, 2) := by decide +kernel
theorem dX11_holdsOf_3 : decode cX11_holdsOf 3 = .ok (.iand, 1) := by decide +kernel
theorem dX11_holdsOf_4 : decode cX11_holdsOf 4 = .ok (.ireturn, 1) := by decide +kernel
theorem dX11_brokenOf_0 : decode cX11_brokenOf 0 = .ok (.iload_n 0, 1) := by decide +kernel
theorem dX11_brokenOf_1 : decode cX11_brokenOf 1 = .ok (.iconst 5, 1) := by decide +kernel
theorem dX11_brokenOf_2 : decode cX11_brokenOf 2 = .ok (.ishr, 1) := by decide +kernel
theorem dX11_brokenOf_3 : decode cX11_brokenOf 3 = .ok (.iconst 3, 1) := by decide +kernel
theorem dX11_brokenOf_4 : decode cX11_brokenOf 4 = .ok (.iand, 1) := by decide +kernel
theorem dX11_brokenOf_5 : decode cX11_brokenOf 5 = .ok (.ireturn, 1) := by decide +kernel
theorem dX11_weepersOf_0 : decode cX11_weepersOf 0 = .ok (.iload_n 0, 1) := by decide +kernel
theorem dX11_weepersOf_1 : decode cX11_weepersOf 1 = .ok (.bipush 7, 2) := by decide +kernel
theorem dX11_weepersOf_3 : decode cX11_weepersOf 3 = .ok (.ishr, 1) := by decide +kernel
theorem dX11_weepersOf_4 : decode cX11_weepersOf 4 = .ok (.bipush 7, 2) := by decide +kernel
theorem dX11_weepersOf_6 : decode cX11_weepersOf 6 = .ok (.iand, 1) := by decide +kernel
theorem dX11_weepersOf_7 : decode cX11_weepersOf 7 = .ok (.ireturn, 1) := by decide +kernel
theorem dX11_askedOf_0 : decode cX11_askedOf 0 = .ok (.iload_n 0, 1) := by decide +kernel
theorem dX11_askedOf_1 : decode cX11_askedOf 1 = .ok (.bipush 10, 2) := by decide +kernel
theorem dX11_askedOf_3 : decode cX11_askedOf 3 = .ok (.ishr, 1) := by decide +kernel
theorem dX11_askedOf_4 : decode cX11_askedOf 4 = .ok (.bipush 7, 2) := by decide +kernel
theorem dX11_askedOf_6 : decode cX11_askedOf 6 = .ok (.iand, 1) := by decide +kernel
theorem dX11_askedOf_7 : decode cX11_askedOf 7 = .ok (.ireturn, 1) := by decide +kernel
theorem dX11_dayOf_0 : decode cX11_dayOf 0 = .ok (.iload_n 0, 1) := by decide +kernel
theorem dX11_dayOf_1 : decode cX11_dayOf 1 = .ok (.bipush 13, 2) := by decide +kernel
theorem dX11_dayOf_3 : decode cX11_dayOf 3 = .ok (.ishr, 1) := by decide +kernel
theorem dX11_dayOf_4 : decode cX11_dayOf 4 = .ok (.ireturn, 1) := by decide +kernel
theorem dX11_isUnder_0 : decode cX11_isUnder 0 = .ok (.iconst 0, 1) := by decide +kernel
theorem dX11_isUnder_1 : decode cX11_isUnder 1 = .ok (.istore 4, 2) := by decide +kernel
theorem dX11_isUnder_3 : decode cX11_isUnder 3 = .ok (.iconst 0, 1) := by decide +kernel
theorem dX11_isUnder_4 : decode cX11_isUnder 4 = .ok (.istore 5, 2) := by decide +kernel
theorem dX11_isUnder_6 : decode cX11_isUnder 6 = .ok (.iload 5, 2) := by decide +kernel
theorem dX11_isUnder_8 : decode cX11_isUnder 8 = .ok (.aload_n 0, 1) := by decide +kernel
theorem dX11_isUnder_9 : decode cX11_isUnder 9 = .ok (.getfield 136, 3) := by decide +kernel
theorem dX11_isUnder_12 : decode cX11_isUnder 12 = .ok (.if_icmp .ge 60, 3) := by decide +kernel
theorem dX11_isUnder_15 : decode cX11_isUnder 15 = .ok (.iload 4, 2) := by decide +kernel
theorem dX11_isUnder_17 : decode cX11_isUnder 17 = .ok (.ifCond .ne 42, 3) := by decide +kernel
theorem dX11_isUnder_20 : decode cX11_isUnder 20 = .ok (.iload_n 1, 1) := by decide +kernel
theorem dX11_isUnder_21 : decode cX11_isUnder 21 = .ok (.iload 5, 2) := by decide +kernel
theorem dX11_isUnder_23 : decode cX11_isUnder 23 = .ok (.invokestatic 174, 3) := by decide +kernel
theorem dX11_isUnder_26 : decode cX11_isUnder 26 = .ok (.ifCond .eq 37, 3) := by decide +kernel
theorem dX11_isUnder_29 : decode cX11_isUnder 29 = .ok (.aload_n 0, 1) := by decide +kernel
theorem dX11_isUnder_30 : decode cX11_isUnder 30 = .ok (.getfield 20, 3) := by decide +kernel
theorem dX11_isUnder_33 : decode cX11_isUnder 33 = .ok (.bipush 10, 2) := by decide +kernel
theorem dX11_isUnder_35 : decode cX11_isUnder 35 = .ok (.iload 5, 2) := by decide +kernel
theorem dX11_isUnder_37 : decode cX11_isUnder 37 = .ok (.imul, 1) := by decide +kernel
theorem dX11_isUnder_38 : decode cX11_isUnder 38 = .ok (.iaload, 1) := by decide +kernel
theorem dX11_isUnder_39 : decode cX11_isUnder 39 = .ok (.iload_n 3, 1) := by decide +kernel
theorem dX11_isUnder_40 : decode cX11_isUnder 40 = .ok (.if_icmp .ne 23, 3) := by decide +kernel
theorem dX11_isUnder_43 : decode cX11_isUnder 43 = .ok (.aload_n 0, 1) := by decide +kernel
theorem dX11_isUnder_44 : decode cX11_isUnder 44 = .ok (.getfield 20, 3) := by decide +kernel
theorem dX11_isUnder_47 : decode cX11_isUnder 47 = .ok (.bipush 10, 2) := by decide +kernel
theorem dX11_isUnder_49 : decode cX11_isUnder 49 = .ok (.iload 5, 2) := by decide +kernel
theorem dX11_isUnder_51 : decode cX11_isUnder 51 = .ok (.imul, 1) := by decide +kernel
theorem dX11_isUnder_52 : decode cX11_isUnder 52 = .ok (.iconst 1, 1) := by decide +kernel
theorem dX11_isUnder_53 : decode cX11_isUnder 53 = .ok (.iadd, 1) := by decide +kernel
theorem dX11_isUnder_54 : decode cX11_isUnder 54 = .ok (.iaload, 1) := by decide +kernel
theorem dX11_isUnder_55 : decode cX11_isUnder 55 = .ok (.iload_n 2, 1) := by decide +kernel
theorem dX11_isUnder_56 : decode cX11_isUnder 56 = .ok (.if_icmp .ne 7, 3) := by decide +kernel
theorem dX11_isUnder_59 : decode cX11_isUnder 59 = .ok (.iconst 1, 1) := by decide +kernel
theorem dX11_isUnder_60 : decode cX11_isUnder 60 = .ok (.goto 4, 3) := by decide +kernel
theorem dX11_isUnder_63 : decode cX11_isUnder 63 = .ok (.iconst 0, 1) := by decide +kernel
theorem dX11_isUnder_64 : decode cX11_isUnder 64 = .ok (.istore 4, 2) := by decide +kernel
theorem dX11_isUnder_66 : decode cX11_isUnder 66 = .ok (.iinc 5 1, 3) := by decide +kernel
theorem dX11_isUnder_69 : decode cX11_isUnder 69 = .ok (.goto (-63), 3) := by decide +kernel
theorem dX11_isUnder_72 : decode cX11_isUnder 72 = .ok (.iload 4, 2) := by decide +kernel
theorem dX11_isUnder_74 : decode cX11_isUnder 74 = .ok (.ireturn, 1) := by decide +kernel
theorem dX11_isBound_0 : decode cX11_isBound 0 = .ok (.iconst 0, 1) := by decide +kernel
theorem dX11_isBound_1 : decode cX11_isBound 1 = .ok (.istore_n 3, 1) := by decide +kernel
theorem dX11_isBound_2 : decode cX11_isBound 2 = .ok (.iconst 0, 1) := by decide +kernel
theorem dX11_isBound_3 : decode cX11_isBound 3 = .ok (.istore 4, 2) := by decide +kernel
theorem dX11_isBound_5 : decode cX11_isBound 5 = .ok (.iload 4, 2) := by decide +kernel
theorem dX11_isBound_7 : decode cX11_isBound 7 = .ok (.aload_n 0, 1) := by decide +kernel
theorem dX11_isBound_8 : decode cX11_isBound 8 = .ok (.getfield 136, 3) := by decide +kernel
theorem dX11_isBound_11 : decode cX11_isBound 11 = .ok (.if_icmp .ge 58, 3) := by decide +kernel
theorem dX11_isBound_14 : decode cX11_isBound 14 = .ok (.iload_n 3, 1) := by decide +kernel
theorem dX11_isBound_15 : decode cX11_isBound 15 = .ok (.ifCond .ne 42, 3) := by decide +kernel
theorem dX11_isBound_18 : decode cX11_isBound 18 = .ok (.iload_n 1, 1) := by decide +kernel
theorem dX11_isBound_19 : decode cX11_isBound 19 = .ok (.iload 4, 2) := by decide +kernel
theorem dX11_isBound_21 : decode cX11_isBound 21 = .ok (.invokestatic 174, 3) := by decide +kernel
theorem dX11_isBound_24 : decode cX11_isBound 24 = .ok (.ifCond .eq 37, 3) := by decide +kernel
theorem dX11_isBound_27 : decode cX11_isBound 27 = .ok (.aload_n 0, 1) := by decide +kernel
theorem dX11_isBound_28 : decode cX11_isBound 28 = .ok (.getfield 20, 3) := by decide +kernel
theorem dX11_isBound_31 : decode cX11_isBound 31 = .ok (.bipush 10, 2) := by decide +kernel
theorem dX11_isBound_33 : decode cX11_isBound 33 = .ok (.iload 4, 2) := by decide +kernel
theorem dX11_isBound_35 : decode cX11_isBound 35 = .ok (.imul, 1) := by decide +kernel
theorem dX11_isBound_36 : decode cX11_isBound 36 = .ok (.iaload, 1) := by decide +kernel
theorem dX11_isBound_37 : decode cX11_isBound 37 = .ok (.iconst 3, 1) := by decide +kernel
theorem dX11_isBound_38 : decode cX11_isBound 38 = .ok (.if_icmp .ne 23, 3) := by decide +kernel
theorem dX11_isBound_41 : decode cX11_isBound 41 = .ok (.aload_n 0, 1) := by decide +kernel
theorem dX11_isBound_42 : decode cX11_isBound 42 = .ok (.getfield 20, 3) := by decide +kernel
theorem dX11_isBound_45 : decode cX11_isBound 45 = .ok (.bipush 10, 2) := by decide +kernel
theorem dX11_isBound_47 : decode cX11_isBound 47 = .ok (.iload 4, 2) := by decide +kernel
theorem dX11_isBound_49 : decode cX11_isBound 49 = .ok (.imul, 1) := by decide +kernel
theorem dX11_isBound_50 : decode cX11_isBound 50 = .ok (.iconst 1, 1) := by decide +kernel
theorem dX11_isBound_51 : decode cX11_isBound 51 = .ok (.iadd, 1) := by decide +kernel
theorem dX11_isBound_52 : decode cX11_isBound 52 = .ok (.iaload, 1) := by decide +kernel
theorem dX11_isBound_53 : decode cX11_isBound 53 = .ok (.iload_n 2, 1) := by decide +kernel
theorem dX11_isBound_54 : decode cX11_isBound 54 = .ok (.if_icmp .ne 7, 3) := by decide +kernel
theorem dX11_isBound_57 : decode cX11_isBound 57 = .ok (.iconst 1, 1) := by decide +kernel
theorem dX11_isBound_58 : decode cX11_isBound 58 = .ok (.goto 4, 3) := by decide +kernel
theorem dX11_isBound_61 : decode cX11_isBound 61 = .ok (.iconst 0, 1) := by decide +kernel
theorem dX11_isBound_62 : decode cX11_isBound 62 = .ok (.istore_n 3, 1) := by decide +kernel
theorem dX11_isBound_63 : decode cX11_isBound 63 = .ok (.iinc 4 1, 3) := by decide +kernel
theorem dX11_isBound_66 : decode cX11_isBound 66 = .ok (.goto (-61), 3) := by decide +kernel
theorem dX11_isBound_69 : decode cX11_isBound 69 = .ok (.iload_n 3, 1) := by decide +kernel
theorem dX11_isBound_70 : decode cX11_isBound 70 = .ok (.ireturn, 1) := by decide +kernel
theorem dX11_isSo_0 : decode cX11_isSo 0 = .ok (.bipush 10, 2) := by decide +kernel
theorem dX11_isSo_2 : decode cX11_isSo 2 = .ok (.iload_n 2, 1) := by decide +kernel
theorem dX11_isSo_3 : decode cX11_isSo 3 = .ok (.imul, 1) := by decide +kernel
theorem dX11_isSo_4 : decode cX11_isSo 4 = .ok (.istore 5, 2) := by decide +kernel
theorem dX11_isSo_6 : decode cX11_isSo 6 = .ok (.aload_n 0, 1) := by decide +kernel
theorem dX11_isSo_7 : decode cX11_isSo 7 = .ok (.getfield 20, 3) := by decide +kernel
theorem dX11_isSo_10 : decode cX11_isSo 10 = .ok (.iload 5, 2) := by decide +kernel
theorem dX11_isSo_12 : decode cX11_isSo 12 = .ok (.iconst 4, 1) := by decide +kernel
theorem dX11_isSo_13 : decode cX11_isSo 13 = .ok (.iadd, 1) := by decide +kernel
theorem dX11_isSo_14 : decode cX11_isSo 14 = .ok (.iconst 2, 1) := by decide +kernel
theorem dX11_isSo_15 : decode cX11_isSo 15 = .ok (.iload_n 3, 1) := by decide +kernel
theorem dX11_isSo_16 : decode cX11_isSo 16 = .ok (.imul, 1) := by decide +kernel
theorem dX11_isSo_17 : decode cX11_isSo 17 = .ok (.iadd, 1) := by decide +kernel
theorem dX11_isSo_18 : decode cX11_isSo 18 = .ok (.iaload, 1) := by decide +kernel
theorem dX11_isSo_19 : decode cX11_isSo 19 = .ok (.istore 6, 2) := by decide +kernel
theorem dX11_isSo_21 : decode cX11_isSo 21 = .ok (.aload_n 0, 1) := by decide +kernel
theorem dX11_isSo_22 : decode cX11_isSo 22 = .ok (.getfield 20, 3) := by decide +kernel
theorem dX11_isSo_25 : decode cX11_isSo 25 = .ok (.iload 5, 2) := by decide +kernel
theorem dX11_isSo_27 : decode cX11_isSo 27 = .ok (.iconst 3, 1) := by decide +kernel
theorem dX11_isSo_28 : decode cX11_isSo 28 = .ok (.iadd, 1) := by decide +kernel
theorem dX11_isSo_29 : decode cX11_isSo 29 = .ok (.iconst 2, 1) := by decide +kernel
theorem dX11_isSo_30 : decode cX11_isSo 30 = .ok (.iload_n 3, 1) := by decide +kernel
theorem dX11_isSo_31 : decode cX11_isSo 31 = .ok (.imul, 1) := by decide +kernel
theorem dX11_isSo_32 : decode cX11_isSo 32 = .ok (.iadd, 1) := by decide +kernel
theorem dX11_isSo_33 : decode cX11_isSo 33 = .ok (.iaload, 1) := by decide +kernel
theorem dX11_isSo_34 : decode cX11_isSo 34 = .ok (.tableswitch 154 0 6 #[42, 79, 89, 104, 111, 126, 136], 42) := by decide +kernel
theorem dX11_isSo_76 : decode cX11_isSo 76 = .ok (.aload_n 0, 1) := by decide +kernel
theorem dX11_isSo_77 : decode cX11_isSo 77 = .ok (.getfield 20, 3) := by decide +kernel
theorem dX11_isSo_80 : decode cX11_isSo 80 = .ok (.iload 5, 2) := by decide +kernel
theorem dX11_isSo_82 : decode cX11_isSo 82 = .ok (.iaload, 1) := by decide +kernel
theorem dX11_isSo_83 : decode cX11_isSo 83 = .ok (.iconst 3, 1) := by decide +kernel
theorem dX11_isSo_84 : decode cX11_isSo 84 = .ok (.if_icmp .eq 27, 3) := by decide +kernel
theorem dX11_isSo_87 : decode cX11_isSo 87 = .ok (.iload 4, 2) := by decide +kernel
theorem dX11_isSo_89 : decode cX11_isSo 89 = .ok (.bipush 7, 2) := by decide +kernel
theorem dX11_isSo_91 : decode cX11_isSo 91 = .ok (.iload 6, 2) := by decide +kernel
theorem dX11_isSo_93 : decode cX11_isSo 93 = .ok (.imul, 1) := by decide +kernel
theorem dX11_isSo_94 : decode cX11_isSo 94 = .ok (.aload_n 0, 1) := by decide +kernel
theorem dX11_isSo_95 : decode cX11_isSo 95 = .ok (.getfield 20, 3) := by decide +kernel
theorem dX11_isSo_98 : decode cX11_isSo 98 = .ok (.iload 5, 2) := by decide +kernel
theorem dX11_isSo_100 : decode cX11_isSo 100 = .ok (.iconst 1, 1) := by decide +kernel
theorem dX11_isSo_101 : decode cX11_isSo 101 = .ok (.iadd, 1) := by decide +kernel
theorem dX11_isSo_102 : decode cX11_isSo 102 = .ok (.iaload, 1) := by decide +kernel
theorem dX11_isSo_103 : decode cX11_isSo 103 = .ok (.iadd, 1) := by decide +kernel
theorem dX11_isSo_104 : decode cX11_isSo 104 = .ok (.if_icmp .ne 7, 3) := by decide +kernel
theorem dX11_isSo_107 : decode cX11_isSo 107 = .ok (.iconst 1, 1) := by decide +kernel
theorem dX11_isSo_108 : decode cX11_isSo 108 = .ok (.goto 4, 3) := by decide +kernel
theorem dX11_isSo_111 : decode cX11_isSo 111 = .ok (.iconst 0, 1) := by decide +kernel
theorem dX11_isSo_112 : decode cX11_isSo 112 = .ok (.ireturn, 1) := by decide +kernel
theorem dX11_isSo_113 : decode cX11_isSo 113 = .ok (.iload_n 1, 1) := by decide +kernel
theorem dX11_isSo_114 : decode cX11_isSo 114 = .ok (.invokestatic 177, 3) := by decide +kernel
theorem dX11_isSo_117 : decode cX11_isSo 117 = .ok (.iload 6, 2) := by decide +kernel
theorem dX11_isSo_119 : decode cX11_isSo 119 = .ok (.invokestatic 174, 3) := by decide +kernel
theorem dX11_isSo_122 : decode cX11_isSo 122 = .ok (.ireturn, 1) := by decide +kernel
theorem dX11_isSo_123 : decode cX11_isSo 123 = .ok (.iload_n 1, 1) := by decide +kernel
theorem dX11_isSo_124 : decode cX11_isSo 124 = .ok (.invokestatic 180, 3) := by decide +kernel
theorem dX11_isSo_127 : decode cX11_isSo 127 = .ok (.iload 6, 2) := by decide +kernel
theorem dX11_isSo_129 : decode cX11_isSo 129 = .ok (.if_icmp .ne 7, 3) := by decide +kernel
theorem dX11_isSo_132 : decode cX11_isSo 132 = .ok (.iconst 1, 1) := by decide +kernel
theorem dX11_isSo_133 : decode cX11_isSo 133 = .ok (.goto 4, 3) := by decide +kernel
theorem dX11_isSo_136 : decode cX11_isSo 136 = .ok (.iconst 0, 1) := by decide +kernel
theorem dX11_isSo_137 : decode cX11_isSo 137 = .ok (.ireturn, 1) := by decide +kernel
theorem dX11_isSo_138 : decode cX11_isSo 138 = .ok (.iload_n 1, 1) := by decide +kernel
theorem dX11_isSo_139 : decode cX11_isSo 139 = .ok (.iload 6, 2) := by decide +kernel
theorem dX11_isSo_141 : decode cX11_isSo 141 = .ok (.invokestatic 174, 3) := by decide +kernel
theorem dX11_isSo_144 : decode cX11_isSo 144 = .ok (.ireturn, 1) := by decide +kernel
theorem dX11_isSo_145 : decode cX11_isSo 145 = .ok (.iload_n 1, 1) := by decide +kernel
theorem dX11_isSo_146 : decode cX11_isSo 146 = .ok (.iload 6, 2) := by decide +kernel
theorem dX11_isSo_148 : decode cX11_isSo 148 = .ok (.invokestatic 174, 3) := by decide +kernel
theorem dX11_isSo_151 : decode cX11_isSo 151 = .ok (.ifCond .ne 7, 3) := by decide +kernel
theorem dX11_isSo_154 : decode cX11_isSo 154 = .ok (.iconst 1, 1) := by decide +kernel
theorem dX11_isSo_155 : decode cX11_isSo 155 = .ok (.goto 4, 3) := by decide +kernel
theorem dX11_isSo_158 : decode cX11_isSo 158 = .ok (.iconst 0, 1) := by decide +kernel
theorem dX11_isSo_159 : decode cX11_isSo 159 = .ok (.ireturn, 1) := by decide +kernel
theorem dX11_isSo_160 : decode cX11_isSo 160 = .ok (.iload_n 1, 1) := by decide +kernel
theorem dX11_isSo_161 : decode cX11_isSo 161 = .ok (.invokestatic 183, 3) := by decide +kernel
theorem dX11_isSo_164 : decode cX11_isSo 164 = .ok (.iload 6, 2) := by decide +kernel
theorem dX11_isSo_166 : decode cX11_isSo 166 = .ok (.invokestatic 174, 3) := by decide +kernel
theorem dX11_isSo_169 : decode cX11_isSo 169 = .ok (.ireturn, 1) := by decide +kernel
theorem dX11_isSo_170 : decode cX11_isSo 170 = .ok (.iload_n 1, 1) := by decide +kernel
theorem dX11_isSo_171 : decode cX11_isSo 171 = .ok (.invokestatic 183, 3) := by decide +kernel
theorem dX11_isSo_174 : decode cX11_isSo 174 = .ok (.iload 6, 2) := by decide +kernel
theorem dX11_isSo_176 : decode cX11_isSo 176 = .ok (.invokestatic 174, 3) := by decide +kernel
theorem dX11_isSo_179 : decode cX11_isSo 179 = .ok (.ifCond .ne 7, 3) := by decide +kernel
theorem dX11_isSo_182 : decode cX11_isSo 182 = .ok (.iconst 1, 1) := by decide +kernel
theorem dX11_isSo_183 : decode cX11_isSo 183 = .ok (.goto 4, 3) := by decide +kernel
theorem dX11_isSo_186 : decode cX11_isSo 186 = .ok (.iconst 0, 1) := by decide +kernel
theorem dX11_isSo_187 : decode cX11_isSo 187 = .ok (.ireturn, 1) := by decide +kernel
theorem dX11_isSo_188 : decode cX11_isSo 188 = .ok (.iload_n 1, 1) := by decide +kernel
theorem dX11_isSo_189 : decode cX11_isSo 189 = .ok (.invokestatic 186, 3) := by decide +kernel
theorem dX11_isSo_192 : decode cX11_isSo 192 = .ok (.iload 6, 2) := by decide +kernel
theorem dX11_isSo_194 : decode cX11_isSo 194 = .ok (.if_icmp .lt 7, 3) := by decide +kernel
theorem dX11_isSo_197 : decode cX11_isSo 197 = .ok (.iconst 1, 1) := by decide +kernel
theorem dX11_isSo_198 : decode cX11_isSo 198 = .ok (.goto 4, 3) := by decide +kernel
theorem dX11_isSo_201 : decode cX11_isSo 201 = .ok (.iconst 0, 1) := by decide +kernel
theorem dX11_isSo_202 : decode cX11_isSo 202 = .ok (.ireturn, 1) := by decide +kernel
theorem dX11_soMany_0 : decode cX11_soMany 0 = .ok (.iconst 0, 1) := by decide +kernel
theorem dX11_soMany_1 : decode cX11_soMany 1 = .ok (.istore 4, 2) := by decide +kernel
theorem dX11_soMany_3 : decode cX11_soMany 3 = .ok (.iconst 0, 1) := by decide +kernel
theorem dX11_soMany_4 : decode cX11_soMany 4 = .ok (.istore 5, 2) := by decide +kernel
theorem dX11_soMany_6 : decode cX11_soMany 6 = .ok (.iload 5, 2) := by decide +kernel
theorem dX11_soMany_8 : decode cX11_soMany 8 = .ok (.aload_n 0, 1) := by decide +kernel
theorem dX11_soMany_9 : decode cX11_soMany 9 = .ok (.getfield 20, 3) := by decide +kernel
theorem dX11_soMany_12 : decode cX11_soMany 12 = .ok (.bipush 10, 2) := by decide +kernel
theorem dX11_soMany_14 : decode cX11_soMany 14 = .ok (.iload_n 2, 1) := by decide +kernel
theorem dX11_soMany_15 : decode cX11_soMany 15 = .ok (.imul, 1) := by decide +kernel
theorem dX11_soMany_16 : decode cX11_soMany 16 = .ok (.iconst 2, 1) := by decide +kernel
theorem dX11_soMany_17 : decode cX11_soMany 17 = .ok (.iadd, 1) := by decide +kernel
theorem dX11_soMany_18 : decode cX11_soMany 18 = .ok (.iaload, 1) := by decide +kernel
theorem dX11_soMany_19 : decode cX11_soMany 19 = .ok (.if_icmp .ge 31, 3) := by decide +kernel
theorem dX11_soMany_22 : decode cX11_soMany 22 = .ok (.iload 4, 2) := by decide +kernel
theorem dX11_soMany_24 : decode cX11_soMany 24 = .ok (.aload_n 0, 1) := by decide +kernel
theorem dX11_soMany_25 : decode cX11_soMany 25 = .ok (.iload_n 1, 1) := by decide +kernel
theorem dX11_soMany_26 : decode cX11_soMany 26 = .ok (.iload_n 2, 1) := by decide +kernel
theorem dX11_soMany_27 : decode cX11_soMany 27 = .ok (.iload 5, 2) := by decide +kernel
theorem dX11_soMany_29 : decode cX11_soMany 29 = .ok (.iload_n 3, 1) := by decide +kernel
theorem dX11_soMany_30 : decode cX11_soMany 30 = .ok (.invokevirtual 189, 3) := by decide +kernel
theorem dX11_soMany_33 : decode cX11_soMany 33 = .ok (.ifCond .eq 7, 3) := by decide +kernel
theorem dX11_soMany_36 : decode cX11_soMany 36 = .ok (.iconst 1, 1) := by decide +kernel
theorem dX11_soMany_37 : decode cX11_soMany 37 = .ok (.goto 4, 3) := by decide +kernel
theorem dX11_soMany_40 : decode cX11_soMany 40 = .ok (.iconst 0, 1) := by decide +kernel
theorem dX11_soMany_41 : decode cX11_soMany 41 = .ok (.iadd, 1) := by decide +kernel
theorem dX11_soMany_42 : decode cX11_soMany 42 = .ok (.istore 4, 2) := by decide +kernel
theorem dX11_soMany_44 : decode cX11_soMany 44 = .ok (.iinc 5 1, 3) := by decide +kernel
theorem dX11_soMany_47 : decode cX11_soMany 47 = .ok (.goto (-41), 3) := by decide +kernel
theorem dX11_soMany_50 : decode cX11_soMany 50 = .ok (.iload 4, 2) := by decide +kernel
theorem dX11_soMany_52 : decode cX11_soMany 52 = .ok (.ireturn, 1) := by decide +kernel
theorem dX11_canDo_0 : decode cX11_canDo 0 = .ok (.iload_n 2, 1) := by decide +kernel
theorem dX11_canDo_1 : decode cX11_canDo 1 = .ok (.bipush 21, 2) := by decide +kernel
theorem dX11_canDo_3 : decode cX11_canDo 3 = .ok (.if_icmp .ne 5, 3) := by decide +kernel
theorem dX11_canDo_6 : decode cX11_canDo 6 = .ok (.iconst 1, 1) := by decide +kernel
theorem dX11_canDo_7 : decode cX11_canDo 7 = .ok (.ireturn, 1) := by decide +kernel
theorem dX11_canDo_8 : decode cX11_canDo 8 = .ok (.iload_n 2, 1) := by decide +kernel
theorem dX11_canDo_9 : decode cX11_canDo 9 = .ok (.bipush 7, 2) := by decide +kernel
theorem dX11_canDo_11 : decode cX11_canDo 11 = .ok (.idiv, 1) := by decide +kernel
theorem dX11_canDo_12 : decode cX11_canDo 12 = .ok (.istore_n 3, 1) := by decide +kernel
theorem dX11_canDo_13 : decode cX11_canDo 13 = .ok (.iload_n 2, 1) := by decide +kernel
theorem dX11_canDo_14 : decode cX11_canDo 14 = .ok (.bipush 7, 2) := by decide +kernel
theorem dX11_canDo_16 : decode cX11_canDo 16 = .ok (.irem, 1) := by decide +kernel
theorem dX11_canDo_17 : decode cX11_canDo 17 = .ok (.istore 4, 2) := by decide +kernel
theorem dX11_canDo_19 : decode cX11_canDo 19 = .ok (.iload_n 3, 1) := by decide +kernel
theorem dX11_canDo_20 : decode cX11_canDo 20 = .ok (.aload_n 0, 1) := by decide +kernel
theorem dX11_canDo_21 : decode cX11_canDo 21 = .ok (.getfield 16, 3) := by decide +kernel
theorem dX11_canDo_24 : decode cX11_canDo 24 = .ok (.if_icmp .ge 13, 3) := by decide +kernel
theorem dX11_canDo_27 : decode cX11_canDo 27 = .ok (.aload_n 0, 1) := by decide +kernel
theorem dX11_canDo_28 : decode cX11_canDo 28 = .ok (.iload_n 1, 1) := by decide +kernel
theorem dX11_canDo_29 : decode cX11_canDo 29 = .ok (.iload_n 3, 1) := by decide +kernel
theorem dX11_canDo_30 : decode cX11_canDo 30 = .ok (.iconst 0, 1) := by decide +kernel
theorem dX11_canDo_31 : decode cX11_canDo 31 = .ok (.invokevirtual 193, 3) := by decide +kernel
theorem dX11_canDo_34 : decode cX11_canDo 34 = .ok (.ifCond .eq 5, 3) := by decide +kernel
theorem dX11_canDo_37 : decode cX11_canDo 37 = .ok (.iconst 0, 1) := by decide +kernel
theorem dX11_canDo_38 : decode cX11_canDo 38 = .ok (.ireturn, 1) := by decide +kernel
theorem dX11_canDo_39 : decode cX11_canDo 39 = .ok (.iload 4, 2) := by decide +kernel
theorem dX11_canDo_41 : decode cX11_canDo 41 = .ok (.iconst 3, 1) := by decide +kernel
theorem dX11_canDo_42 : decode cX11_canDo 42 = .ok (.if_icmp .ge 26, 3) := by decide +kernel
theorem dX11_canDo_45 : decode cX11_canDo 45 = .ok (.iload 4, 2) := by decide +kernel
theorem dX11_canDo_47 : decode cX11_canDo 47 = .ok (.aload_n 0, 1) := by decide +kernel
theorem dX11_canDo_48 : decode cX11_canDo 48 = .ok (.getfield 16, 3) := by decide +kernel
theorem dX11_canDo_51 : decode cX11_canDo 51 = .ok (.if_icmp .ge 13, 3) := by decide +kernel
theorem dX11_canDo_54 : decode cX11_canDo 54 = .ok (.iload 4, 2) := by decide +kernel
theorem dX11_canDo_56 : decode cX11_canDo 56 = .ok (.iload_n 3, 1) := by decide +kernel
theorem dX11_canDo_57 : decode cX11_canDo 57 = .ok (.if_icmp .eq 7, 3) := by decide +kernel
theorem dX11_canDo_60 : decode cX11_canDo 60 = .ok (.iconst 1, 1) := by decide +kernel
theorem dX11_canDo_61 : decode cX11_canDo 61 = .ok (.goto 95, 3) := by decide +kernel
theorem dX11_canDo_64 : decode cX11_canDo 64 = .ok (.iconst 0, 1) := by decide +kernel
theorem dX11_canDo_65 : decode cX11_canDo 65 = .ok (.goto 91, 3) := by decide +kernel
theorem dX11_canDo_68 : decode cX11_canDo 68 = .ok (.iload 4, 2) := by decide +kernel
theorem dX11_canDo_70 : decode cX11_canDo 70 = .ok (.iconst 3, 1) := by decide +kernel
theorem dX11_canDo_71 : decode cX11_canDo 71 = .ok (.if_icmp .ne 22, 3) := by decide +kernel
theorem dX11_canDo_74 : decode cX11_canDo 74 = .ok (.iload_n 1, 1) := by decide +kernel
theorem dX11_canDo_75 : decode cX11_canDo 75 = .ok (.invokestatic 177, 3) := by decide +kernel
theorem dX11_canDo_78 : decode cX11_canDo 78 = .ok (.iload_n 3, 1) := by decide +kernel
theorem dX11_canDo_79 : decode cX11_canDo 79 = .ok (.invokestatic 174, 3) := by decide +kernel
theorem dX11_canDo_82 : decode cX11_canDo 82 = .ok (.ifCond .ne 7, 3) := by decide +kernel
theorem dX11_canDo_85 : decode cX11_canDo 85 = .ok (.iconst 1, 1) := by decide +kernel
theorem dX11_canDo_86 : decode cX11_canDo 86 = .ok (.goto 70, 3) := by decide +kernel
theorem dX11_canDo_89 : decode cX11_canDo 89 = .ok (.iconst 0, 1) := by decide +kernel
theorem dX11_canDo_90 : decode cX11_canDo 90 = .ok (.goto 66, 3) := by decide +kernel
theorem dX11_canDo_93 : decode cX11_canDo 93 = .ok (.iload 4, 2) := by decide +kernel
theorem dX11_canDo_95 : decode cX11_canDo 95 = .ok (.bipush 6, 2) := by decide +kernel
theorem dX11_canDo_97 : decode cX11_canDo 97 = .ok (.if_icmp .ge 35, 3) := by decide +kernel
theorem dX11_canDo_100 : decode cX11_canDo 100 = .ok (.iload_n 1, 1) := by decide +kernel
theorem dX11_canDo_101 : decode cX11_canDo 101 = .ok (.invokestatic 183, 3) := by decide +kernel
theorem dX11_canDo_104 : decode cX11_canDo 104 = .ok (.iload 4, 2) := by decide +kernel
theorem dX11_canDo_106 : decode cX11_canDo 106 = .ok (.iconst 4, 1) := by decide +kernel
theorem dX11_canDo_107 : decode cX11_canDo 107 = .ok (.isub, 1) := by decide +kernel
theorem dX11_canDo_108 : decode cX11_canDo 108 = .ok (.invokestatic 174, 3) := by decide +kernel
theorem dX11_canDo_111 : decode cX11_canDo 111 = .ok (.ifCond .ne 17, 3) := by decide +kernel
theorem dX11_canDo_114 : decode cX11_canDo 114 = .ok (.aload_n 0, 1) := by decide +kernel
theorem dX11_canDo_115 : decode cX11_canDo 115 = .ok (.iload_n 1, 1) := by decide +kernel
theorem dX11_canDo_116 : decode cX11_canDo 116 = .ok (.iload_n 3, 1) := by decide +kernel
theorem dX11_canDo_117 : decode cX11_canDo 117 = .ok (.iconst 1, 1) := by decide +kernel
theorem dX11_canDo_118 : decode cX11_canDo 118 = .ok (.invokevirtual 193, 3) := by decide +kernel
theorem dX11_canDo_121 : decode cX11_canDo 121 = .ok (.ifCond .ne 7, 3) := by decide +kernel
theorem dX11_canDo_124 : decode cX11_canDo 124 = .ok (.iconst 1, 1) := by decide +kernel
theorem dX11_canDo_125 : decode cX11_canDo 125 = .ok (.goto 31, 3) := by decide +kernel
theorem dX11_canDo_128 : decode cX11_canDo 128 = .ok (.iconst 0, 1) := by decide +kernel
theorem dX11_canDo_129 : decode cX11_canDo 129 = .ok (.goto 27, 3) := by decide +kernel
theorem dX11_canDo_132 : decode cX11_canDo 132 = .ok (.iload_n 1, 1) := by decide +kernel
theorem dX11_canDo_133 : decode cX11_canDo 133 = .ok (.invokestatic 186, 3) := by decide +kernel
theorem dX11_canDo_136 : decode cX11_canDo 136 = .ok (.bipush 7, 2) := by decide +kernel
theorem dX11_canDo_138 : decode cX11_canDo 138 = .ok (.if_icmp .ge 17, 3) := by decide +kernel
theorem dX11_canDo_141 : decode cX11_canDo 141 = .ok (.aload_n 0, 1) := by decide +kernel
theorem dX11_canDo_142 : decode cX11_canDo 142 = .ok (.iload_n 1, 1) := by decide +kernel
theorem dX11_canDo_143 : decode cX11_canDo 143 = .ok (.iload_n 3, 1) := by decide +kernel
theorem dX11_canDo_144 : decode cX11_canDo 144 = .ok (.iconst 2, 1) := by decide +kernel
theorem dX11_canDo_145 : decode cX11_canDo 145 = .ok (.invokevirtual 193, 3) := by decide +kernel
theorem dX11_canDo_148 : decode cX11_canDo 148 = .ok (.ifCond .ne 7, 3) := by decide +kernel
theorem dX11_canDo_151 : decode cX11_canDo 151 = .ok (.iconst 1, 1) := by decide +kernel
theorem dX11_canDo_152 : decode cX11_canDo 152 = .ok (.goto 4, 3) := by decide +kernel
theorem dX11_canDo_155 : decode cX11_canDo 155 = .ok (.iconst 0, 1) := by decide +kernel
theorem dX11_canDo_156 : decode cX11_canDo 156 = .ok (.ireturn, 1) := by decide +kernel
theorem dX11_doOnly_0 : decode cX11_doOnly 0 = .ok (.iload_n 2, 1) := by decide +kernel
theorem dX11_doOnly_1 : decode cX11_doOnly 1 = .ok (.bipush 7, 2) := by decide +kernel
theorem dX11_doOnly_3 : decode cX11_doOnly 3 = .ok (.irem, 1) := by decide +kernel
theorem dX11_doOnly_4 : decode cX11_doOnly 4 = .ok (.istore_n 3, 1) := by decide +kernel
theorem dX11_doOnly_5 : decode cX11_doOnly 5 = .ok (.iload_n 2, 1) := by decide +kernel
theorem dX11_doOnly_6 : decode cX11_doOnly 6 = .ok (.bipush 21, 2) := by decide +kernel
theorem dX11_doOnly_8 : decode cX11_doOnly 8 = .ok (.if_icmp .ne 30, 3) := by decide +kernel
theorem dX11_doOnly_11 : decode cX11_doOnly 11 = .ok (.iload_n 1, 1) := by decide +kernel
theorem dX11_doOnly_12 : decode cX11_doOnly 12 = .ok (.sipush 8191, 3) := by decide +kernel
theorem dX11_doOnly_15 : decode cX11_doOnly 15 = .ok (.iand, 1) := by decide +kernel
theorem dX11_doOnly_16 : decode cX11_doOnly 16 = .ok (.sipush (-897), 3) := by decide +kernel
theorem dX11_doOnly_19 : decode cX11_doOnly 19 = .ok (.iand, 1) := by decide +kernel
theorem dX11_doOnly_20 : decode cX11_doOnly 20 = .ok (.istore 4, 2) := by decide +kernel
theorem dX11_doOnly_22 : decode cX11_doOnly 22 = .ok (.iload 4, 2) := by decide +kernel
theorem dX11_doOnly_24 : decode cX11_doOnly 24 = .ok (.iload_n 1, 1) := by decide +kernel
theorem dX11_doOnly_25 : decode cX11_doOnly 25 = .ok (.invokestatic 180, 3) := by decide +kernel
theorem dX11_doOnly_28 : decode cX11_doOnly 28 = .ok (.iconst 1, 1) := by decide +kernel
theorem dX11_doOnly_29 : decode cX11_doOnly 29 = .ok (.iadd, 1) := by decide +kernel
theorem dX11_doOnly_30 : decode cX11_doOnly 30 = .ok (.bipush 7, 2) := by decide +kernel
theorem dX11_doOnly_32 : decode cX11_doOnly 32 = .ok (.irem, 1) := by decide +kernel
theorem dX11_doOnly_33 : decode cX11_doOnly 33 = .ok (.bipush 13, 2) := by decide +kernel
theorem dX11_doOnly_35 : decode cX11_doOnly 35 = .ok (.ishl, 1) := by decide +kernel
theorem dX11_doOnly_36 : decode cX11_doOnly 36 = .ok (.ior, 1) := by decide +kernel
theorem dX11_doOnly_37 : decode cX11_doOnly 37 = .ok (.ireturn, 1) := by decide +kernel
theorem dX11_doOnly_38 : decode cX11_doOnly 38 = .ok (.iload_n 3, 1) := by decide +kernel
theorem dX11_doOnly_39 : decode cX11_doOnly 39 = .ok (.iconst 3, 1) := by decide +kernel
theorem dX11_doOnly_40 : decode cX11_doOnly 40 = .ok (.if_icmp .ge 7, 3) := by decide +kernel
theorem dX11_doOnly_43 : decode cX11_doOnly 43 = .ok (.iload_n 1, 1) := by decide +kernel
theorem dX11_doOnly_44 : decode cX11_doOnly 44 = .ok (.goto 45, 3) := by decide +kernel
theorem dX11_doOnly_47 : decode cX11_doOnly 47 = .ok (.iload_n 3, 1) := by decide +kernel
theorem dX11_doOnly_48 : decode cX11_doOnly 48 = .ok (.iconst 3, 1) := by decide +kernel
theorem dX11_doOnly_49 : decode cX11_doOnly 49 = .ok (.if_icmp .ne 17, 3) := by decide +kernel
theorem dX11_doOnly_52 : decode cX11_doOnly 52 = .ok (.iload_n 1, 1) := by decide +kernel
theorem dX11_doOnly_53 : decode cX11_doOnly 53 = .ok (.iconst 1, 1) := by decide +kernel
theorem dX11_doOnly_54 : decode cX11_doOnly 54 = .ok (.bipush 7, 2) := by decide +kernel
theorem dX11_doOnly_56 : decode cX11_doOnly 56 = .ok (.iload_n 2, 1) := by decide +kernel
theorem dX11_doOnly_57 : decode cX11_doOnly 57 = .ok (.bipush 7, 2) := by decide +kernel
theorem dX11_doOnly_59 : decode cX11_doOnly 59 = .ok (.idiv, 1) := by decide +kernel
theorem dX11_doOnly_60 : decode cX11_doOnly 60 = .ok (.iadd, 1) := by decide +kernel
theorem dX11_doOnly_61 : decode cX11_doOnly 61 = .ok (.ishl, 1) := by decide +kernel
theorem dX11_doOnly_62 : decode cX11_doOnly 62 = .ok (.ior, 1) := by decide +kernel
theorem dX11_doOnly_63 : decode cX11_doOnly 63 = .ok (.goto 26, 3) := by decide +kernel
theorem dX11_doOnly_66 : decode cX11_doOnly 66 = .ok (.iload_n 3, 1) := by decide +kernel
theorem dX11_doOnly_67 : decode cX11_doOnly 67 = .ok (.bipush 6, 2) := by decide +kernel
theorem dX11_doOnly_69 : decode cX11_doOnly 69 = .ok (.if_icmp .ge 15, 3) := by decide +kernel
theorem dX11_doOnly_72 : decode cX11_doOnly 72 = .ok (.iload_n 1, 1) := by decide +kernel
theorem dX11_doOnly_73 : decode cX11_doOnly 73 = .ok (.iconst 1, 1) := by decide +kernel
theorem dX11_doOnly_74 : decode cX11_doOnly 74 = .ok (.iconst 5, 1) := by decide +kernel
theorem dX11_doOnly_75 : decode cX11_doOnly 75 = .ok (.iload_n 3, 1) := by decide +kernel
theorem dX11_doOnly_76 : decode cX11_doOnly 76 = .ok (.iadd, 1) := by decide +kernel
theorem dX11_doOnly_77 : decode cX11_doOnly 77 = .ok (.iconst 4, 1) := by decide +kernel
theorem dX11_doOnly_78 : decode cX11_doOnly 78 = .ok (.isub, 1) := by decide +kernel
theorem dX11_doOnly_79 : decode cX11_doOnly 79 = .ok (.ishl, 1) := by decide +kernel
theorem dX11_doOnly_80 : decode cX11_doOnly 80 = .ok (.ior, 1) := by decide +kernel
theorem dX11_doOnly_81 : decode cX11_doOnly 81 = .ok (.goto 8, 3) := by decide +kernel
theorem dX11_doOnly_84 : decode cX11_doOnly 84 = .ok (.iload_n 1, 1) := by decide +kernel
theorem dX11_doOnly_85 : decode cX11_doOnly 85 = .ok (.sipush 1024, 3) := by decide +kernel
theorem dX11_doOnly_88 : decode cX11_doOnly 88 = .ok (.iadd, 1) := by decide +kernel
theorem dX11_doOnly_89 : decode cX11_doOnly 89 = .ok (.ireturn, 1) := by decide +kernel
theorem dX11_behind_0 : decode cX11_behind 0 = .ok (.aload_n 0, 1) := by decide +kernel
theorem dX11_behind_1 : decode cX11_behind 1 = .ok (.iload_n 1, 1) := by decide +kernel
theorem dX11_behind_2 : decode cX11_behind 2 = .ok (.iload_n 2, 1) := by decide +kernel
theorem dX11_behind_3 : decode cX11_behind 3 = .ok (.invokevirtual 196, 3) := by decide +kernel
theorem dX11_behind_6 : decode cX11_behind 6 = .ok (.istore_n 3, 1) := by decide +kernel
theorem dX11_behind_7 : decode cX11_behind 7 = .ok (.aload_n 0, 1) := by decide +kernel
theorem dX11_behind_8 : decode cX11_behind 8 = .ok (.iconst 0, 1) := by decide +kernel
theorem dX11_behind_9 : decode cX11_behind 9 = .ok (.putfield 200, 3) := by decide +kernel
theorem dX11_behind_12 : decode cX11_behind 12 = .ok (.iconst 0, 1) := by decide +kernel
theorem dX11_behind_13 : decode cX11_behind 13 = .ok (.istore 4, 2) := by decide +kernel
theorem dX11_behind_15 : decode cX11_behind 15 = .ok (.iload 4, 2) := by decide +kernel
theorem dX11_behind_17 : decode cX11_behind 17 = .ok (.aload_n 0, 1) := by decide +kernel
theorem dX11_behind_18 : decode cX11_behind 18 = .ok (.getfield 136, 3) := by decide +kernel
theorem dX11_behind_21 : decode cX11_behind 21 = .ok (.if_icmp .ge 105, 3) := by decide +kernel
theorem dX11_behind_24 : decode cX11_behind 24 = .ok (.iload_n 3, 1) := by decide +kernel
theorem dX11_behind_25 : decode cX11_behind 25 = .ok (.iload 4, 2) := by decide +kernel
theorem dX11_behind_27 : decode cX11_behind 27 = .ok (.invokestatic 174, 3) := by decide +kernel
theorem dX11_behind_30 : decode cX11_behind 30 = .ok (.ifCond .eq 90, 3) := by decide +kernel
theorem dX11_behind_33 : decode cX11_behind 33 = .ok (.aload_n 0, 1) := by decide +kernel
theorem dX11_behind_34 : decode cX11_behind 34 = .ok (.iload_n 3, 1) := by decide +kernel
theorem dX11_behind_35 : decode cX11_behind 35 = .ok (.iload 4, 2) := by decide +kernel
theorem dX11_behind_37 : decode cX11_behind 37 = .ok (.invokevirtual 203, 3) := by decide +kernel
theorem dX11_behind_40 : decode cX11_behind 40 = .ok (.ifCond .ne 80, 3) := by decide +kernel
theorem dX11_behind_43 : decode cX11_behind 43 = .ok (.aload_n 0, 1) := by decide +kernel
theorem dX11_behind_44 : decode cX11_behind 44 = .ok (.iload_n 3, 1) := by decide +kernel
theorem dX11_behind_45 : decode cX11_behind 45 = .ok (.iload 4, 2) := by decide +kernel
theorem dX11_behind_47 : decode cX11_behind 47 = .ok (.iload_n 2, 1) := by decide +kernel
theorem dX11_behind_48 : decode cX11_behind 48 = .ok (.invokevirtual 206, 3) := by decide +kernel
theorem dX11_behind_51 : decode cX11_behind 51 = .ok (.aload_n 0, 1) := by decide +kernel
theorem dX11_behind_52 : decode cX11_behind 52 = .ok (.getfield 20, 3) := by decide +kernel
theorem dX11_behind_55 : decode cX11_behind 55 = .ok (.bipush 10, 2) := by decide +kernel
theorem dX11_behind_57 : decode cX11_behind 57 = .ok (.iload 4, 2) := by decide +kernel
theorem dX11_behind_59 : decode cX11_behind 59 = .ok (.imul, 1) := by decide +kernel
theorem dX11_behind_60 : decode cX11_behind 60 = .ok (.iconst 2, 1) := by decide +kernel
theorem dX11_behind_61 : decode cX11_behind 61 = .ok (.iadd, 1) := by decide +kernel
theorem dX11_behind_62 : decode cX11_behind 62 = .ok (.iaload, 1) := by decide +kernel
theorem dX11_behind_63 : decode cX11_behind 63 = .ok (.if_icmp .ne 57, 3) := by decide +kernel
theorem dX11_behind_66 : decode cX11_behind 66 = .ok (.aload_n 0, 1) := by decide +kernel
theorem dX11_behind_67 : decode cX11_behind 67 = .ok (.dup, 1) := by decide +kernel
theorem dX11_behind_68 : decode cX11_behind 68 = .ok (.getfield 200, 3) := by decide +kernel
theorem dX11_behind_71 : decode cX11_behind 71 = .ok (.iconst 1, 1) := by decide +kernel
theorem dX11_behind_72 : decode cX11_behind 72 = .ok (.iload 4, 2) := by decide +kernel
theorem dX11_behind_74 : decode cX11_behind 74 = .ok (.ishl, 1) := by decide +kernel
theorem dX11_behind_75 : decode cX11_behind 75 = .ok (.ior, 1) := by decide +kernel
theorem dX11_behind_76 : decode cX11_behind 76 = .ok (.putfield 200, 3) := by decide +kernel
theorem dX11_behind_79 : decode cX11_behind 79 = .ok (.iload_n 3, 1) := by decide +kernel
theorem dX11_behind_80 : decode cX11_behind 80 = .ok (.iconst 1, 1) := by decide +kernel
theorem dX11_behind_81 : decode cX11_behind 81 = .ok (.iload 4, 2) := by decide +kernel
theorem dX11_behind_83 : decode cX11_behind 83 = .ok (.ishl, 1) := by decide +kernel
theorem dX11_behind_84 : decode cX11_behind 84 = .ok (.iconst (-1), 1) := by decide +kernel
theorem dX11_behind_85 : decode cX11_behind 85 = .ok (.ixor, 1) := by decide +kernel
theorem dX11_behind_86 : decode cX11_behind 86 = .ok (.iand, 1) := by decide +kernel
theorem dX11_behind_87 : decode cX11_behind 87 = .ok (.istore_n 3, 1) := by decide +kernel
theorem dX11_behind_88 : decode cX11_behind 88 = .ok (.aload_n 0, 1) := by decide +kernel
theorem dX11_behind_89 : decode cX11_behind 89 = .ok (.getfield 20, 3) := by decide +kernel
theorem dX11_behind_92 : decode cX11_behind 92 = .ok (.bipush 10, 2) := by decide +kernel
theorem dX11_behind_94 : decode cX11_behind 94 = .ok (.iload 4, 2) := by decide +kernel
theorem dX11_behind_96 : decode cX11_behind 96 = .ok (.imul, 1) := by decide +kernel
theorem dX11_behind_97 : decode cX11_behind 97 = .ok (.bipush 9, 2) := by decide +kernel
theorem dX11_behind_99 : decode cX11_behind 99 = .ok (.iadd, 1) := by decide +kernel
theorem dX11_behind_100 : decode cX11_behind 100 = .ok (.iaload, 1) := by decide +kernel
theorem dX11_behind_101 : decode cX11_behind 101 = .ok (.istore 5, 2) := by decide +kernel
theorem dX11_behind_103 : decode cX11_behind 103 = .ok (.iload_n 3, 1) := by decide +kernel
theorem dX11_behind_104 : decode cX11_behind 104 = .ok (.iload 5, 2) := by decide +kernel
theorem dX11_behind_106 : decode cX11_behind 106 = .ok (.iconst (-1), 1) := by decide +kernel
theorem dX11_behind_107 : decode cX11_behind 107 = .ok (.if_icmp .ne 7, 3) := by decide +kernel
theorem dX11_behind_110 : decode cX11_behind 110 = .ok (.iconst 0, 1) := by decide +kernel
theorem dX11_behind_111 : decode cX11_behind 111 = .ok (.goto 7, 3) := by decide +kernel
theorem dX11_behind_114 : decode cX11_behind 114 = .ok (.iconst 1, 1) := by decide +kernel
theorem dX11_behind_115 : decode cX11_behind 115 = .ok (.iload 5, 2) := by decide +kernel
theorem dX11_behind_117 : decode cX11_behind 117 = .ok (.ishl, 1) := by decide +kernel
theorem dX11_behind_118 : decode cX11_behind 118 = .ok (.ior, 1) := by decide +kernel
theorem dX11_behind_119 : decode cX11_behind 119 = .ok (.istore_n 3, 1) := by decide +kernel
theorem dX11_behind_120 : decode cX11_behind 120 = .ok (.iinc 4 1, 3) := by decide +kernel
theorem dX11_behind_123 : decode cX11_behind 123 = .ok (.goto (-108), 3) := by decide +kernel
theorem dX11_behind_126 : decode cX11_behind 126 = .ok (.iload_n 3, 1) := by decide +kernel
theorem dX11_behind_127 : decode cX11_behind 127 = .ok (.ireturn, 1) := by decide +kernel
theorem dX11_isPerson_0 : decode cX11_isPerson 0 = .ok (.iload_n 1, 1) := by decide +kernel
theorem dX11_isPerson_1 : decode cX11_isPerson 1 = .ok (.i2l, 1) := by decide +kernel
theorem dX11_isPerson_2 : decode cX11_isPerson 2 = .ok (.lconst 0, 1) := by decide +kernel
theorem dX11_isPerson_3 : decode cX11_isPerson 3 = .ok (.aload_n 0, 1) := by decide +kernel
theorem dX11_isPerson_4 : decode cX11_isPerson 4 = .ok (.getfield 16, 3) := by decide +kernel
theorem dX11_isPerson_7 : decode cX11_isPerson 7 = .ok (.iconst 1, 1) := by decide +kernel
theorem dX11_isPerson_8 : decode cX11_isPerson 8 = .ok (.isub, 1) := by decide +kernel
theorem dX11_isPerson_9 : decode cX11_isPerson 9 = .ok (.i2l, 1) := by decide +kernel
theorem dX11_isPerson_10 : decode cX11_isPerson 10 = .ok (.invokestatic 60, 3) := by decide +kernel
theorem dX11_isPerson_13 : decode cX11_isPerson 13 = .ok (.ireturn, 1) := by decide +kernel
theorem dX11_isSpell_0 : decode cX11_isSpell 0 = .ok (.iload_n 1, 1) := by decide +kernel
theorem dX11_isSpell_1 : decode cX11_isSpell 1 = .ok (.i2l, 1) := by decide +kernel
theorem dX11_isSpell_2 : decode cX11_isSpell 2 = .ok (.lconst 0, 1) := by decide +kernel
theorem dX11_isSpell_3 : decode cX11_isSpell 3 = .ok (.aload_n 0, 1) := by decide +kernel
theorem dX11_isSpell_4 : decode cX11_isSpell 4 = .ok (.getfield 136, 3) := by decide +kernel
theorem dX11_isSpell_7 : decode cX11_isSpell 7 = .ok (.iconst 1, 1) := by decide +kernel
theorem dX11_isSpell_8 : decode cX11_isSpell 8 = .ok (.isub, 1) := by decide +kernel
theorem dX11_isSpell_9 : decode cX11_isSpell 9 = .ok (.i2l, 1) := by decide +kernel
theorem dX11_isSpell_10 : decode cX11_isSpell 10 = .ok (.invokestatic 60, 3) := by decide +kernel
theorem dX11_isSpell_13 : decode cX11_isSpell 13 = .ok (.ireturn, 1) := by decide +kernel
theorem dX11_person_0 : decode cX11_person 0 = .ok (.aload_n 0, 1) := by decide +kernel
theorem dX11_person_1 : decode cX11_person 1 = .ok (.iload_n 1, 1) := by decide +kernel
theorem dX11_person_2 : decode cX11_person 2 = .ok (.invokevirtual 210, 3) := by decide +kernel
theorem dX11_person_5 : decode cX11_person 5 = .ok (.ifCond .ne 6, 3) := by decide +kernel
theorem dX11_person_8 : decode cX11_person 8 = .ok (.bipush (-2), 2) := by decide +kernel
theorem dX11_person_10 : decode cX11_person 10 = .ok (.ireturn, 1) := by decide +kernel
theorem dX11_person_11 : decode cX11_person 11 = .ok (.iload_n 2, 1) := by decide +kernel
theorem dX11_person_12 : decode cX11_person 12 = .ok (.i2l, 1) := by decide +kernel
theorem dX11_person_13 : decode cX11_person 13 = .ok (.lconst 0, 1) := by decide +kernel
theorem dX11_person_14 : decode cX11_person 14 = .ok (.ldc2_w 213, 3) := by decide +kernel
theorem dX11_person_17 : decode cX11_person 17 = .ok (.invokestatic 60, 3) := by decide +kernel
theorem dX11_person_20 : decode cX11_person 20 = .ok (.ifCond .eq 24, 3) := by decide +kernel
theorem dX11_person_23 : decode cX11_person 23 = .ok (.aload_n 0, 1) := by decide +kernel
theorem dX11_person_24 : decode cX11_person 24 = .ok (.aload_n 0, 1) := by decide +kernel
theorem dX11_person_25 : decode cX11_person 25 = .ok (.getfield 156, 3) := by decide +kernel
theorem dX11_person_28 : decode cX11_person 28 = .ok (.iload_n 1, 1) := by decide +kernel
theorem dX11_person_29 : decode cX11_person 29 = .ok (.iload_n 2, 1) := by decide +kernel
theorem dX11_person_30 : decode cX11_person 30 = .ok (.invokevirtual 193, 3) := by decide +kernel
theorem dX11_person_33 : decode cX11_person 33 = .ok (.ifCond .eq 7, 3) := by decide +kernel
theorem dX11_person_36 : decode cX11_person 36 = .ok (.iconst 1, 1) := by decide +kernel
theorem dX11_person_37 : decode cX11_person 37 = .ok (.goto 28, 3) := by decide +kernel
theorem dX11_person_40 : decode cX11_person 40 = .ok (.iconst 0, 1) := by decide +kernel
theorem dX11_person_41 : decode cX11_person 41 = .ok (.goto 24, 3) := by decide +kernel
theorem dX11_person_44 : decode cX11_person 44 = .ok (.iload_n 2, 1) := by decide +kernel
theorem dX11_person_45 : decode cX11_person 45 = .ok (.iconst 3, 1) := by decide +kernel
theorem dX11_person_46 : decode cX11_person 46 = .ok (.if_icmp .ne 17, 3) := by decide +kernel
theorem dX11_person_49 : decode cX11_person 49 = .ok (.aload_n 0, 1) := by decide +kernel
theorem dX11_person_50 : decode cX11_person 50 = .ok (.getfield 156, 3) := by decide +kernel
theorem dX11_person_53 : decode cX11_person 53 = .ok (.invokestatic 177, 3) := by decide +kernel
theorem dX11_person_56 : decode cX11_person 56 = .ok (.iload_n 1, 1) := by decide +kernel
theorem dX11_person_57 : decode cX11_person 57 = .ok (.ishr, 1) := by decide +kernel
theorem dX11_person_58 : decode cX11_person 58 = .ok (.iconst 1, 1) := by decide +kernel
theorem dX11_person_59 : decode cX11_person 59 = .ok (.iand, 1) := by decide +kernel
theorem dX11_person_60 : decode cX11_person 60 = .ok (.goto 5, 3) := by decide +kernel
theorem dX11_person_63 : decode cX11_person 63 = .ok (.bipush (-3), 2) := by decide +kernel
theorem dX11_person_65 : decode cX11_person 65 = .ok (.ireturn, 1) := by decide +kernel
theorem dX11_spell_0 : decode cX11_spell 0 = .ok (.aload_n 0, 1) := by decide +kernel
theorem dX11_spell_1 : decode cX11_spell 1 = .ok (.iload_n 1, 1) := by decide +kernel
theorem dX11_spell_2 : decode cX11_spell 2 = .ok (.invokevirtual 215, 3) := by decide +kernel
theorem dX11_spell_5 : decode cX11_spell 5 = .ok (.ifCond .ne 6, 3) := by decide +kernel
theorem dX11_spell_8 : decode cX11_spell 8 = .ok (.bipush (-2), 2) := by decide +kernel
theorem dX11_spell_10 : decode cX11_spell 10 = .ok (.ireturn, 1) := by decide +kernel
theorem dX11_spell_11 : decode cX11_spell 11 = .ok (.iload_n 2, 1) := by decide +kernel
theorem dX11_spell_12 : decode cX11_spell 12 = .ok (.tableswitch 104 0 5 #[40, 40, 52, 61, 79, 91], 40) := by decide +kernel
theorem dX11_spell_52 : decode cX11_spell 52 = .ok (.aload_n 0, 1) := by decide +kernel
theorem dX11_spell_53 : decode cX11_spell 53 = .ok (.getfield 20, 3) := by decide +kernel
theorem dX11_spell_56 : decode cX11_spell 56 = .ok (.bipush 10, 2) := by decide +kernel
theorem dX11_spell_58 : decode cX11_spell 58 = .ok (.iload_n 1, 1) := by decide +kernel
theorem dX11_spell_59 : decode cX11_spell 59 = .ok (.imul, 1) := by decide +kernel
theorem dX11_spell_60 : decode cX11_spell 60 = .ok (.iload_n 2, 1) := by decide +kernel
theorem dX11_spell_61 : decode cX11_spell 61 = .ok (.iadd, 1) := by decide +kernel
theorem dX11_spell_62 : decode cX11_spell 62 = .ok (.iaload, 1) := by decide +kernel
theorem dX11_spell_63 : decode cX11_spell 63 = .ok (.ireturn, 1) := by decide +kernel
theorem dX11_spell_64 : decode cX11_spell 64 = .ok (.aload_n 0, 1) := by decide +kernel
theorem dX11_spell_65 : decode cX11_spell 65 = .ok (.getfield 156, 3) := by decide +kernel
theorem dX11_spell_68 : decode cX11_spell 68 = .ok (.iload_n 1, 1) := by decide +kernel
theorem dX11_spell_69 : decode cX11_spell 69 = .ok (.ishr, 1) := by decide +kernel
theorem dX11_spell_70 : decode cX11_spell 70 = .ok (.iconst 1, 1) := by decide +kernel
theorem dX11_spell_71 : decode cX11_spell 71 = .ok (.iand, 1) := by decide +kernel
theorem dX11_spell_72 : decode cX11_spell 72 = .ok (.ireturn, 1) := by decide +kernel
theorem dX11_spell_73 : decode cX11_spell 73 = .ok (.aload_n 0, 1) := by decide +kernel
theorem dX11_spell_74 : decode cX11_spell 74 = .ok (.aload_n 0, 1) := by decide +kernel
theorem dX11_spell_75 : decode cX11_spell 75 = .ok (.getfield 156, 3) := by decide +kernel
theorem dX11_spell_78 : decode cX11_spell 78 = .ok (.iload_n 1, 1) := by decide +kernel
theorem dX11_spell_79 : decode cX11_spell 79 = .ok (.invokevirtual 203, 3) := by decide +kernel
theorem dX11_spell_82 : decode cX11_spell 82 = .ok (.ifCond .eq 7, 3) := by decide +kernel
theorem dX11_spell_85 : decode cX11_spell 85 = .ok (.iconst 1, 1) := by decide +kernel
theorem dX11_spell_86 : decode cX11_spell 86 = .ok (.goto 4, 3) := by decide +kernel
theorem dX11_spell_89 : decode cX11_spell 89 = .ok (.iconst 0, 1) := by decide +kernel
theorem dX11_spell_90 : decode cX11_spell 90 = .ok (.ireturn, 1) := by decide +kernel
theorem dX11_spell_91 : decode cX11_spell 91 = .ok (.aload_n 0, 1) := by decide +kernel
theorem dX11_spell_92 : decode cX11_spell 92 = .ok (.getfield 20, 3) := by decide +kernel
theorem dX11_spell_95 : decode cX11_spell 95 = .ok (.bipush 10, 2) := by decide +kernel
theorem dX11_spell_97 : decode cX11_spell 97 = .ok (.iload_n 1, 1) := by decide +kernel
theorem dX11_spell_98 : decode cX11_spell 98 = .ok (.imul, 1) := by decide +kernel
theorem dX11_spell_99 : decode cX11_spell 99 = .ok (.iconst 2, 1) := by decide +kernel
theorem dX11_spell_100 : decode cX11_spell 100 = .ok (.iadd, 1) := by decide +kernel
theorem dX11_spell_101 : decode cX11_spell 101 = .ok (.iaload, 1) := by decide +kernel
theorem dX11_spell_102 : decode cX11_spell 102 = .ok (.ireturn, 1) := by decide +kernel
theorem dX11_spell_103 : decode cX11_spell 103 = .ok (.aload_n 0, 1) := by decide +kernel
theorem dX11_spell_104 : decode cX11_spell 104 = .ok (.getfield 20, 3) := by decide +kernel
theorem dX11_spell_107 : decode cX11_spell 107 = .ok (.bipush 10, 2) := by decide +kernel
theorem dX11_spell_109 : decode cX11_spell 109 = .ok (.iload_n 1, 1) := by decide +kernel
theorem dX11_spell_110 : decode cX11_spell 110 = .ok (.imul, 1) := by decide +kernel
theorem dX11_spell_111 : decode cX11_spell 111 = .ok (.bipush 9, 2) := by decide +kernel
theorem dX11_spell_113 : decode cX11_spell 113 = .ok (.iadd, 1) := by decide +kernel
theorem dX11_spell_114 : decode cX11_spell 114 = .ok (.iaload, 1) := by decide +kernel
theorem dX11_spell_115 : decode cX11_spell 115 = .ok (.ireturn, 1) := by decide +kernel
theorem dX11_spell_116 : decode cX11_spell 116 = .ok (.bipush (-3), 2) := by decide +kernel
theorem dX11_spell_118 : decode cX11_spell 118 = .ok (.ireturn, 1) := by decide +kernel
theorem dX11_term_0 : decode cX11_term 0 = .ok (.aload_n 0, 1) := by decide +kernel
theorem dX11_term_1 : decode cX11_term 1 = .ok (.iload_n 1, 1) := by decide +kernel
theorem dX11_term_2 : decode cX11_term 2 = .ok (.invokevirtual 215, 3) := by decide +kernel
theorem dX11_term_5 : decode cX11_term 5 = .ok (.ifCond .eq 26, 3) := by decide +kernel
theorem dX11_term_8 : decode cX11_term 8 = .ok (.iload_n 2, 1) := by decide +kernel
theorem dX11_term_9 : decode cX11_term 9 = .ok (.i2l, 1) := by decide +kernel
theorem dX11_term_10 : decode cX11_term 10 = .ok (.lconst 0, 1) := by decide +kernel
theorem dX11_term_11 : decode cX11_term 11 = .ok (.aload_n 0, 1) := by decide +kernel
theorem dX11_term_12 : decode cX11_term 12 = .ok (.getfield 20, 3) := by decide +kernel
theorem dX11_term_15 : decode cX11_term 15 = .ok (.bipush 10, 2) := by decide +kernel
theorem dX11_term_17 : decode cX11_term 17 = .ok (.iload_n 1, 1) := by decide +kernel
theorem dX11_term_18 : decode cX11_term 18 = .ok (.imul, 1) := by decide +kernel
theorem dX11_term_19 : decode cX11_term 19 = .ok (.iconst 2, 1) := by decide +kernel
theorem dX11_term_20 : decode cX11_term 20 = .ok (.iadd, 1) := by decide +kernel
theorem dX11_term_21 : decode cX11_term 21 = .ok (.iaload, 1) := by decide +kernel
theorem dX11_term_22 : decode cX11_term 22 = .ok (.iconst 1, 1) := by decide +kernel
theorem dX11_term_23 : decode cX11_term 23 = .ok (.isub, 1) := by decide +kernel
theorem dX11_term_24 : decode cX11_term 24 = .ok (.i2l, 1) := by decide +kernel
theorem dX11_term_25 : decode cX11_term 25 = .ok (.invokestatic 60, 3) := by decide +kernel
theorem dX11_term_28 : decode cX11_term 28 = .ok (.ifCond .ne 6, 3) := by decide +kernel
theorem dX11_term_31 : decode cX11_term 31 = .ok (.bipush (-2), 2) := by decide +kernel
theorem dX11_term_33 : decode cX11_term 33 = .ok (.ireturn, 1) := by decide +kernel
theorem dX11_term_34 : decode cX11_term 34 = .ok (.iload_n 3, 1) := by decide +kernel
theorem dX11_term_35 : decode cX11_term 35 = .ok (.i2l, 1) := by decide +kernel
theorem dX11_term_36 : decode cX11_term 36 = .ok (.lconst 0, 1) := by decide +kernel
theorem dX11_term_37 : decode cX11_term 37 = .ok (.lconst 1, 1) := by decide +kernel
theorem dX11_term_38 : decode cX11_term 38 = .ok (.invokestatic 60, 3) := by decide +kernel
theorem dX11_term_41 : decode cX11_term 41 = .ok (.ifCond .eq 23, 3) := by decide +kernel
theorem dX11_term_44 : decode cX11_term 44 = .ok (.aload_n 0, 1) := by decide +kernel
theorem dX11_term_45 : decode cX11_term 45 = .ok (.getfield 20, 3) := by decide +kernel
theorem dX11_term_48 : decode cX11_term 48 = .ok (.bipush 10, 2) := by decide +kernel
theorem dX11_term_50 : decode cX11_term 50 = .ok (.iload_n 1, 1) := by decide +kernel
theorem dX11_term_51 : decode cX11_term 51 = .ok (.imul, 1) := by decide +kernel
theorem dX11_term_52 : decode cX11_term 52 = .ok (.iconst 3, 1) := by decide +kernel
theorem dX11_term_53 : decode cX11_term 53 = .ok (.iadd, 1) := by decide +kernel
theorem dX11_term_54 : decode cX11_term 54 = .ok (.iconst 2, 1) := by decide +kernel
theorem dX11_term_55 : decode cX11_term 55 = .ok (.iload_n 2, 1) := by decide +kernel
theorem dX11_term_56 : decode cX11_term 56 = .ok (.imul, 1) := by decide +kernel
theorem dX11_term_57 : decode cX11_term 57 = .ok (.iadd, 1) := by decide +kernel
theorem dX11_term_58 : decode cX11_term 58 = .ok (.iload_n 3, 1) := by decide +kernel
theorem dX11_term_59 : decode cX11_term 59 = .ok (.iadd, 1) := by decide +kernel
theorem dX11_term_60 : decode cX11_term 60 = .ok (.iaload, 1) := by decide +kernel
theorem dX11_term_61 : decode cX11_term 61 = .ok (.goto 33, 3) := by decide +kernel
theorem dX11_term_64 : decode cX11_term 64 = .ok (.iload_n 3, 1) := by decide +kernel
theorem dX11_term_65 : decode cX11_term 65 = .ok (.iconst 2, 1) := by decide +kernel
theorem dX11_term_66 : decode cX11_term 66 = .ok (.if_icmp .ne 26, 3) := by decide +kernel
theorem dX11_term_69 : decode cX11_term 69 = .ok (.aload_n 0, 1) := by decide +kernel
theorem dX11_term_70 : decode cX11_term 70 = .ok (.aload_n 0, 1) := by decide +kernel
theorem dX11_term_71 : decode cX11_term 71 = .ok (.getfield 156, 3) := by decide +kernel
theorem dX11_term_74 : decode cX11_term 74 = .ok (.iload_n 1, 1) := by decide +kernel
theorem dX11_term_75 : decode cX11_term 75 = .ok (.iload_n 2, 1) := by decide +kernel
theorem dX11_term_76 : decode cX11_term 76 = .ok (.bipush 21, 2) := by decide +kernel
theorem dX11_term_78 : decode cX11_term 78 = .ok (.invokevirtual 189, 3) := by decide +kernel
theorem dX11_term_81 : decode cX11_term 81 = .ok (.ifCond .eq 7, 3) := by decide +kernel
theorem dX11_term_84 : decode cX11_term 84 = .ok (.iconst 1, 1) := by decide +kernel
theorem dX11_term_85 : decode cX11_term 85 = .ok (.goto 9, 3) := by decide +kernel
theorem dX11_term_88 : decode cX11_term 88 = .ok (.iconst 0, 1) := by decide +kernel
theorem dX11_term_89 : decode cX11_term 89 = .ok (.goto 5, 3) := by decide +kernel
theorem dX11_term_92 : decode cX11_term 92 = .ok (.bipush (-3), 2) := by decide +kernel
theorem dX11_term_94 : decode cX11_term 94 = .ok (.ireturn, 1) := by decide +kernel
theorem dX11_as_0 : decode cX11_as 0 = .ok (.aload_n 0, 1) := by decide +kernel
theorem dX11_as_1 : decode cX11_as 1 = .ok (.iload_n 1, 1) := by decide +kernel
theorem dX11_as_2 : decode cX11_as 2 = .ok (.invokevirtual 215, 3) := by decide +kernel
theorem dX11_as_5 : decode cX11_as 5 = .ok (.ifCond .ne 6, 3) := by decide +kernel
theorem dX11_as_8 : decode cX11_as 8 = .ok (.bipush (-2), 2) := by decide +kernel
theorem dX11_as_10 : decode cX11_as 10 = .ok (.ireturn, 1) := by decide +kernel
theorem dX11_as_11 : decode cX11_as 11 = .ok (.iload_n 2, 1) := by decide +kernel
theorem dX11_as_12 : decode cX11_as 12 = .ok (.i2l, 1) := by decide +kernel
theorem dX11_as_13 : decode cX11_as 13 = .ok (.lconst 0, 1) := by decide +kernel
theorem dX11_as_14 : decode cX11_as 14 = .ok (.ldc2_w 218, 3) := by decide +kernel
theorem dX11_as_17 : decode cX11_as 17 = .ok (.invokestatic 60, 3) := by decide +kernel
theorem dX11_as_20 : decode cX11_as 20 = .ok (.ifCond .ne 6, 3) := by decide +kernel
theorem dX11_as_23 : decode cX11_as 23 = .ok (.bipush (-3), 2) := by decide +kernel
theorem dX11_as_25 : decode cX11_as 25 = .ok (.ireturn, 1) := by decide +kernel
theorem dX11_as_26 : decode cX11_as 26 = .ok (.aload_n 0, 1) := by decide +kernel
theorem dX11_as_27 : decode cX11_as 27 = .ok (.getfield 20, 3) := by decide +kernel
theorem dX11_as_30 : decode cX11_as 30 = .ok (.bipush 10, 2) := by decide +kernel
theorem dX11_as_32 : decode cX11_as 32 = .ok (.iload_n 1, 1) := by decide +kernel
theorem dX11_as_33 : decode cX11_as 33 = .ok (.imul, 1) := by decide +kernel
theorem dX11_as_34 : decode cX11_as 34 = .ok (.iaload, 1) := by decide +kernel
theorem dX11_as_35 : decode cX11_as 35 = .ok (.istore_n 3, 1) := by decide +kernel
theorem dX11_as_36 : decode cX11_as 36 = .ok (.iload_n 2, 1) := by decide +kernel
theorem dX11_as_37 : decode cX11_as 37 = .ok (.ifCond .eq 20, 3) := by decide +kernel
theorem dX11_as_40 : decode cX11_as 40 = .ok (.iload_n 2, 1) := by decide +kernel
theorem dX11_as_41 : decode cX11_as 41 = .ok (.iconst 1, 1) := by decide +kernel
theorem dX11_as_42 : decode cX11_as 42 = .ok (.if_icmp .ne 8, 3) := by decide +kernel
theorem dX11_as_45 : decode cX11_as 45 = .ok (.iload_n 3, 1) := by decide +kernel
theorem dX11_as_46 : decode cX11_as 46 = .ok (.iconst 3, 1) := by decide +kernel
theorem dX11_as_47 : decode cX11_as 47 = .ok (.if_icmp .ne 10, 3) := by decide +kernel
theorem dX11_as_50 : decode cX11_as 50 = .ok (.iload_n 2, 1) := by decide +kernel
theorem dX11_as_51 : decode cX11_as 51 = .ok (.iload_n 3, 1) := by decide +kernel
theorem dX11_as_52 : decode cX11_as 52 = .ok (.iconst 2, 1) := by decide +kernel
theorem dX11_as_53 : decode cX11_as 53 = .ok (.iadd, 1) := by decide +kernel
theorem dX11_as_54 : decode cX11_as 54 = .ok (.if_icmp .ne 7, 3) := by decide +kernel
theorem dX11_as_57 : decode cX11_as 57 = .ok (.iconst 1, 1) := by decide +kernel
theorem dX11_as_58 : decode cX11_as 58 = .ok (.goto 4, 3) := by decide +kernel
theorem dX11_as_61 : decode cX11_as 61 = .ok (.iconst 0, 1) := by decide +kernel
theorem dX11_as_62 : decode cX11_as 62 = .ok (.istore 4, 2) := by decide +kernel
theorem dX11_as_64 : decode cX11_as 64 = .ok (.iload 4, 2) := by decide +kernel
theorem dX11_as_66 : decode cX11_as 66 = .ok (.ifCond .eq 17, 3) := by decide +kernel
theorem dX11_as_69 : decode cX11_as 69 = .ok (.aload_n 0, 1) := by decide +kernel
theorem dX11_as_70 : decode cX11_as 70 = .ok (.aload_n 0, 1) := by decide +kernel
theorem dX11_as_71 : decode cX11_as 71 = .ok (.getfield 156, 3) := by decide +kernel
theorem dX11_as_74 : decode cX11_as 74 = .ok (.iload_n 1, 1) := by decide +kernel
theorem dX11_as_75 : decode cX11_as 75 = .ok (.bipush 21, 2) := by decide +kernel
theorem dX11_as_77 : decode cX11_as 77 = .ok (.invokevirtual 206, 3) := by decide +kernel
theorem dX11_as_80 : decode cX11_as 80 = .ok (.goto 5, 3) := by decide +kernel
theorem dX11_as_83 : decode cX11_as 83 = .ok (.bipush (-4), 2) := by decide +kernel
theorem dX11_as_85 : decode cX11_as 85 = .ok (.ireturn, 1) := by decide +kernel
theorem dX11_laidBy_0 : decode cX11_laidBy 0 = .ok (.aload_n 0, 1) := by decide +kernel
theorem dX11_laidBy_1 : decode cX11_laidBy 1 = .ok (.iload_n 1, 1) := by decide +kernel
theorem dX11_laidBy_2 : decode cX11_laidBy 2 = .ok (.invokevirtual 215, 3) := by decide +kernel
theorem dX11_laidBy_5 : decode cX11_laidBy 5 = .ok (.ifCond .ne 6, 3) := by decide +kernel
theorem dX11_laidBy_8 : decode cX11_laidBy 8 = .ok (.bipush (-2), 2) := by decide +kernel
theorem dX11_laidBy_10 : decode cX11_laidBy 10 = .ok (.ireturn, 1) := by decide +kernel
theorem dX11_laidBy_11 : decode cX11_laidBy 11 = .ok (.iconst 0, 1) := by decide +kernel
theorem dX11_laidBy_12 : decode cX11_laidBy 12 = .ok (.istore_n 2, 1) := by decide +kernel
theorem dX11_laidBy_13 : decode cX11_laidBy 13 = .ok (.iconst 0, 1) := by decide +kernel
theorem dX11_laidBy_14 : decode cX11_laidBy 14 = .ok (.istore_n 3, 1) := by decide +kernel
theorem dX11_laidBy_15 : decode cX11_laidBy 15 = .ok (.iconst 0, 1) := by decide +kernel
theorem dX11_laidBy_16 : decode cX11_laidBy 16 = .ok (.istore 4, 2) := by decide +kernel
theorem dX11_laidBy_18 : decode cX11_laidBy 18 = .ok (.iconst 0, 1) := by decide +kernel
theorem dX11_laidBy_19 : decode cX11_laidBy 19 = .ok (.istore 5, 2) := by decide +kernel
theorem dX11_laidBy_21 : decode cX11_laidBy 21 = .ok (.iload 5, 2) := by decide +kernel
theorem dX11_laidBy_23 : decode cX11_laidBy 23 = .ok (.aload_n 0, 1) := by decide +kernel
theorem dX11_laidBy_24 : decode cX11_laidBy 24 = .ok (.getfield 20, 3) := by decide +kernel
theorem dX11_laidBy_27 : decode cX11_laidBy 27 = .ok (.bipush 10, 2) := by decide +kernel
theorem dX11_laidBy_29 : decode cX11_laidBy 29 = .ok (.iload_n 1, 1) := by decide +kernel
theorem dX11_laidBy_30 : decode cX11_laidBy 30 = .ok (.imul, 1) := by decide +kernel
theorem dX11_laidBy_31 : decode cX11_laidBy 31 = .ok (.iconst 2, 1) := by decide +kernel
theorem dX11_laidBy_32 : decode cX11_laidBy 32 = .ok (.iadd, 1) := by decide +kernel
theorem dX11_laidBy_33 : decode cX11_laidBy 33 = .ok (.iaload, 1) := by decide +kernel
theorem dX11_laidBy_34 : decode cX11_laidBy 34 = .ok (.if_icmp .ge 92, 3) := by decide +kernel
theorem dX11_laidBy_37 : decode cX11_laidBy 37 = .ok (.aload_n 0, 1) := by decide +kernel
theorem dX11_laidBy_38 : decode cX11_laidBy 38 = .ok (.getfield 20, 3) := by decide +kernel
theorem dX11_laidBy_41 : decode cX11_laidBy 41 = .ok (.bipush 10, 2) := by decide +kernel
theorem dX11_laidBy_43 : decode cX11_laidBy 43 = .ok (.iload_n 1, 1) := by decide +kernel
theorem dX11_laidBy_44 : decode cX11_laidBy 44 = .ok (.imul, 1) := by decide +kernel
theorem dX11_laidBy_45 : decode cX11_laidBy 45 = .ok (.iconst 3, 1) := by decide +kernel
theorem dX11_laidBy_46 : decode cX11_laidBy 46 = .ok (.iadd, 1) := by decide +kernel
theorem dX11_laidBy_47 : decode cX11_laidBy 47 = .ok (.iconst 2, 1) := by decide +kernel
theorem dX11_laidBy_48 : decode cX11_laidBy 48 = .ok (.iload 5, 2) := by decide +kernel
theorem dX11_laidBy_50 : decode cX11_laidBy 50 = .ok (.imul, 1) := by decide +kernel
theorem dX11_laidBy_51 : decode cX11_laidBy 51 = .ok (.iadd, 1) := by decide +kernel
theorem dX11_laidBy_52 : decode cX11_laidBy 52 = .ok (.iaload, 1) := by decide +kernel
theorem dX11_laidBy_53 : decode cX11_laidBy 53 = .ok (.istore 6, 2) := by decide +kernel
theorem dX11_laidBy_55 : decode cX11_laidBy 55 = .ok (.iload_n 2, 1) := by decide +kernel
theorem dX11_laidBy_56 : decode cX11_laidBy 56 = .ok (.iload 6, 2) := by decide +kernel
theorem dX11_laidBy_58 : decode cX11_laidBy 58 = .ok (.ifCond .eq 9, 3) := by decide +kernel
theorem dX11_laidBy_61 : decode cX11_laidBy 61 = .ok (.iload 6, 2) := by decide +kernel
theorem dX11_laidBy_63 : decode cX11_laidBy 63 = .ok (.iconst 1, 1) := by decide +kernel
theorem dX11_laidBy_64 : decode cX11_laidBy 64 = .ok (.if_icmp .ne 7, 3) := by decide +kernel
theorem dX11_laidBy_67 : decode cX11_laidBy 67 = .ok (.iconst 1, 1) := by decide +kernel
theorem dX11_laidBy_68 : decode cX11_laidBy 68 = .ok (.goto 4, 3) := by decide +kernel
theorem dX11_laidBy_71 : decode cX11_laidBy 71 = .ok (.iconst 0, 1) := by decide +kernel
theorem dX11_laidBy_72 : decode cX11_laidBy 72 = .ok (.iadd, 1) := by decide +kernel
theorem dX11_laidBy_73 : decode cX11_laidBy 73 = .ok (.istore_n 2, 1) := by decide +kernel
theorem dX11_laidBy_74 : decode cX11_laidBy 74 = .ok (.iload_n 3, 1) := by decide +kernel
theorem dX11_laidBy_75 : decode cX11_laidBy 75 = .ok (.iload 6, 2) := by decide +kernel
theorem dX11_laidBy_77 : decode cX11_laidBy 77 = .ok (.iconst 2, 1) := by decide +kernel
theorem dX11_laidBy_78 : decode cX11_laidBy 78 = .ok (.if_icmp .eq 10, 3) := by decide +kernel
theorem dX11_laidBy_81 : decode cX11_laidBy 81 = .ok (.iload 6, 2) := by decide +kernel
theorem dX11_laidBy_83 : decode cX11_laidBy 83 = .ok (.bipush 7, 2) := by decide +kernel
theorem dX11_laidBy_85 : decode cX11_laidBy 85 = .ok (.if_icmp .ne 7, 3) := by decide +kernel
theorem dX11_laidBy_88 : decode cX11_laidBy 88 = .ok (.iconst 1, 1) := by decide +kernel
theorem dX11_laidBy_89 : decode cX11_laidBy 89 = .ok (.goto 4, 3) := by decide +kernel
theorem dX11_laidBy_92 : decode cX11_laidBy 92 = .ok (.iconst 0, 1) := by decide +kernel
theorem dX11_laidBy_93 : decode cX11_laidBy 93 = .ok (.iadd, 1) := by decide +kernel
theorem dX11_laidBy_94 : decode cX11_laidBy 94 = .ok (.istore_n 3, 1) := by decide +kernel
theorem dX11_laidBy_95 : decode cX11_laidBy 95 = .ok (.iload 4, 2) := by decide +kernel
theorem dX11_laidBy_97 : decode cX11_laidBy 97 = .ok (.iload 6, 2) := by decide +kernel
theorem dX11_laidBy_99 : decode cX11_laidBy 99 = .ok (.i2l, 1) := by decide +kernel
theorem dX11_laidBy_100 : decode cX11_laidBy 100 = .ok (.ldc2_w 220, 3) := by decide +kernel
theorem dX11_laidBy_103 : decode cX11_laidBy 103 = .ok (.ldc2_w 222, 3) := by decide +kernel
theorem dX11_laidBy_106 : decode cX11_laidBy 106 = .ok (.invokestatic 60, 3) := by decide +kernel
theorem dX11_laidBy_109 : decode cX11_laidBy 109 = .ok (.ifCond .eq 7, 3) := by decide +kernel
theorem dX11_laidBy_112 : decode cX11_laidBy 112 = .ok (.iconst 1, 1) := by decide +kernel
theorem dX11_laidBy_113 : decode cX11_laidBy 113 = .ok (.goto 4, 3) := by decide +kernel
theorem dX11_laidBy_116 : decode cX11_laidBy 116 = .ok (.iconst 0, 1) := by decide +kernel
theorem dX11_laidBy_117 : decode cX11_laidBy 117 = .ok (.iadd, 1) := by decide +kernel
theorem dX11_laidBy_118 : decode cX11_laidBy 118 = .ok (.istore 4, 2) := by decide +kernel
theorem dX11_laidBy_120 : decode cX11_laidBy 120 = .ok (.iinc 5 1, 3) := by decide +kernel
theorem dX11_laidBy_123 : decode cX11_laidBy 123 = .ok (.goto (-102), 3) := by decide +kernel
theorem dX11_laidBy_126 : decode cX11_laidBy 126 = .ok (.iload_n 2, 1) := by decide +kernel
theorem dX11_laidBy_127 : decode cX11_laidBy 127 = .ok (.iload_n 3, 1) := by decide +kernel
theorem dX11_laidBy_128 : decode cX11_laidBy 128 = .ok (.if_icmp .lt 13, 3) := by decide +kernel
theorem dX11_laidBy_131 : decode cX11_laidBy 131 = .ok (.iload_n 2, 1) := by decide +kernel
theorem dX11_laidBy_132 : decode cX11_laidBy 132 = .ok (.iload 4, 2) := by decide +kernel
theorem dX11_laidBy_134 : decode cX11_laidBy 134 = .ok (.if_icmp .lt 7, 3) := by decide +kernel
theorem dX11_laidBy_137 : decode cX11_laidBy 137 = .ok (.iconst 0, 1) := by decide +kernel
theorem dX11_laidBy_138 : decode cX11_laidBy 138 = .ok (.goto 14, 3) := by decide +kernel
theorem dX11_laidBy_141 : decode cX11_laidBy 141 = .ok (.iload_n 3, 1) := by decide +kernel
theorem dX11_laidBy_142 : decode cX11_laidBy 142 = .ok (.iload 4, 2) := by decide +kernel
theorem dX11_laidBy_144 : decode cX11_laidBy 144 = .ok (.if_icmp .lt 7, 3) := by decide +kernel
theorem dX11_laidBy_147 : decode cX11_laidBy 147 = .ok (.iconst 1, 1) := by decide +kernel
theorem dX11_laidBy_148 : decode cX11_laidBy 148 = .ok (.goto 4, 3) := by decide +kernel
theorem dX11_laidBy_151 : decode cX11_laidBy 151 = .ok (.iconst 2, 1) := by decide +kernel
theorem dX11_laidBy_152 : decode cX11_laidBy 152 = .ok (.ireturn, 1) := by decide +kernel
theorem dX11_deedOf_0 : decode cX11_deedOf 0 = .ok (.aload_n 0, 1) := by decide +kernel
theorem dX11_deedOf_1 : decode cX11_deedOf 1 = .ok (.iload_n 1, 1) := by decide +kernel
theorem dX11_deedOf_2 : decode cX11_deedOf 2 = .ok (.invokevirtual 210, 3) := by decide +kernel
theorem dX11_deedOf_5 : decode cX11_deedOf 5 = .ok (.ifCond .ne 6, 3) := by decide +kernel
theorem dX11_deedOf_8 : decode cX11_deedOf 8 = .ok (.bipush (-2), 2) := by decide +kernel
theorem dX11_deedOf_10 : decode cX11_deedOf 10 = .ok (.ireturn, 1) := by decide +kernel
theorem dX11_deedOf_11 : decode cX11_deedOf 11 = .ok (.iload_n 2, 1) := by decide +kernel
theorem dX11_deedOf_12 : decode cX11_deedOf 12 = .ok (.i2l, 1) := by decide +kernel
theorem dX11_deedOf_13 : decode cX11_deedOf 13 = .ok (.lconst 0, 1) := by decide +kernel
theorem dX11_deedOf_14 : decode cX11_deedOf 14 = .ok (.ldc2_w 131, 3) := by decide +kernel
theorem dX11_deedOf_17 : decode cX11_deedOf 17 = .ok (.invokestatic 60, 3) := by decide +kernel
theorem dX11_deedOf_20 : decode cX11_deedOf 20 = .ok (.ifCond .ne 6, 3) := by decide +kernel
theorem dX11_deedOf_23 : decode cX11_deedOf 23 = .ok (.bipush (-3), 2) := by decide +kernel
theorem dX11_deedOf_25 : decode cX11_deedOf 25 = .ok (.ireturn, 1) := by decide +kernel
theorem dX11_deedOf_26 : decode cX11_deedOf 26 = .ok (.iload_n 2, 1) := by decide +kernel
theorem dX11_deedOf_27 : decode cX11_deedOf 27 = .ok (.ifCond .ne 16, 3) := by decide +kernel
theorem dX11_deedOf_30 : decode cX11_deedOf 30 = .ok (.aload_n 0, 1) := by decide +kernel
theorem dX11_deedOf_31 : decode cX11_deedOf 31 = .ok (.iload_n 3, 1) := by decide +kernel
theorem dX11_deedOf_32 : decode cX11_deedOf 32 = .ok (.invokevirtual 210, 3) := by decide +kernel
theorem dX11_deedOf_35 : decode cX11_deedOf 35 = .ok (.ifCond .eq 23, 3) := by decide +kernel
theorem dX11_deedOf_38 : decode cX11_deedOf 38 = .ok (.iload_n 3, 1) := by decide +kernel
theorem dX11_deedOf_39 : decode cX11_deedOf 39 = .ok (.iload_n 1, 1) := by decide +kernel
theorem dX11_deedOf_40 : decode cX11_deedOf 40 = .ok (.if_icmp .eq 18, 3) := by decide +kernel
theorem dX11_deedOf_43 : decode cX11_deedOf 43 = .ok (.iload_n 2, 1) := by decide +kernel
theorem dX11_deedOf_44 : decode cX11_deedOf 44 = .ok (.iconst 2, 1) := by decide +kernel
theorem dX11_deedOf_45 : decode cX11_deedOf 45 = .ok (.if_icmp .ne 16, 3) := by decide +kernel
theorem dX11_deedOf_48 : decode cX11_deedOf 48 = .ok (.iload_n 3, 1) := by decide +kernel
theorem dX11_deedOf_49 : decode cX11_deedOf 49 = .ok (.i2l, 1) := by decide +kernel
theorem dX11_deedOf_50 : decode cX11_deedOf 50 = .ok (.lconst 0, 1) := by decide +kernel
theorem dX11_deedOf_51 : decode cX11_deedOf 51 = .ok (.lconst 1, 1) := by decide +kernel
theorem dX11_deedOf_52 : decode cX11_deedOf 52 = .ok (.invokestatic 60, 3) := by decide +kernel
theorem dX11_deedOf_55 : decode cX11_deedOf 55 = .ok (.ifCond .ne 6, 3) := by decide +kernel
theorem dX11_deedOf_58 : decode cX11_deedOf 58 = .ok (.bipush (-2), 2) := by decide +kernel
theorem dX11_deedOf_60 : decode cX11_deedOf 60 = .ok (.ireturn, 1) := by decide +kernel
theorem dX11_deedOf_61 : decode cX11_deedOf 61 = .ok (.iload_n 2, 1) := by decide +kernel
theorem dX11_deedOf_62 : decode cX11_deedOf 62 = .ok (.ifCond .ne 12, 3) := by decide +kernel
theorem dX11_deedOf_65 : decode cX11_deedOf 65 = .ok (.bipush 7, 2) := by decide +kernel
theorem dX11_deedOf_67 : decode cX11_deedOf 67 = .ok (.iload_n 1, 1) := by decide +kernel
theorem dX11_deedOf_68 : decode cX11_deedOf 68 = .ok (.imul, 1) := by decide +kernel
theorem dX11_deedOf_69 : decode cX11_deedOf 69 = .ok (.iload_n 3, 1) := by decide +kernel
theorem dX11_deedOf_70 : decode cX11_deedOf 70 = .ok (.iadd, 1) := by decide +kernel
theorem dX11_deedOf_71 : decode cX11_deedOf 71 = .ok (.goto 50, 3) := by decide +kernel
theorem dX11_deedOf_74 : decode cX11_deedOf 74 = .ok (.iload_n 2, 1) := by decide +kernel
theorem dX11_deedOf_75 : decode cX11_deedOf 75 = .ok (.iconst 1, 1) := by decide +kernel
theorem dX11_deedOf_76 : decode cX11_deedOf 76 = .ok (.if_icmp .ne 12, 3) := by decide +kernel
theorem dX11_deedOf_79 : decode cX11_deedOf 79 = .ok (.bipush 7, 2) := by decide +kernel
theorem dX11_deedOf_81 : decode cX11_deedOf 81 = .ok (.iload_n 1, 1) := by decide +kernel
theorem dX11_deedOf_82 : decode cX11_deedOf 82 = .ok (.imul, 1) := by decide +kernel
theorem dX11_deedOf_83 : decode cX11_deedOf 83 = .ok (.iconst 3, 1) := by decide +kernel
theorem dX11_deedOf_84 : decode cX11_deedOf 84 = .ok (.iadd, 1) := by decide +kernel
theorem dX11_deedOf_85 : decode cX11_deedOf 85 = .ok (.goto 36, 3) := by decide +kernel
theorem dX11_deedOf_88 : decode cX11_deedOf 88 = .ok (.iload_n 2, 1) := by decide +kernel
theorem dX11_deedOf_89 : decode cX11_deedOf 89 = .ok (.iconst 2, 1) := by decide +kernel
theorem dX11_deedOf_90 : decode cX11_deedOf 90 = .ok (.if_icmp .ne 14, 3) := by decide +kernel
theorem dX11_deedOf_93 : decode cX11_deedOf 93 = .ok (.bipush 7, 2) := by decide +kernel
theorem dX11_deedOf_95 : decode cX11_deedOf 95 = .ok (.iload_n 1, 1) := by decide +kernel
theorem dX11_deedOf_96 : decode cX11_deedOf 96 = .ok (.imul, 1) := by decide +kernel
theorem dX11_deedOf_97 : decode cX11_deedOf 97 = .ok (.iconst 4, 1) := by decide +kernel
theorem dX11_deedOf_98 : decode cX11_deedOf 98 = .ok (.iadd, 1) := by decide +kernel
theorem dX11_deedOf_99 : decode cX11_deedOf 99 = .ok (.iload_n 3, 1) := by decide +kernel
theorem dX11_deedOf_100 : decode cX11_deedOf 100 = .ok (.iadd, 1) := by decide +kernel
theorem dX11_deedOf_101 : decode cX11_deedOf 101 = .ok (.goto 20, 3) := by decide +kernel
theorem dX11_deedOf_104 : decode cX11_deedOf 104 = .ok (.iload_n 2, 1) := by decide +kernel
theorem dX11_deedOf_105 : decode cX11_deedOf 105 = .ok (.iconst 3, 1) := by decide +kernel
theorem dX11_deedOf_106 : decode cX11_deedOf 106 = .ok (.if_icmp .ne 13, 3) := by decide +kernel
theorem dX11_deedOf_109 : decode cX11_deedOf 109 = .ok (.bipush 7, 2) := by decide +kernel
theorem dX11_deedOf_111 : decode cX11_deedOf 111 = .ok (.iload_n 1, 1) := by decide +kernel
theorem dX11_deedOf_112 : decode cX11_deedOf 112 = .ok (.imul, 1) := by decide +kernel
theorem dX11_deedOf_113 : decode cX11_deedOf 113 = .ok (.bipush 6, 2) := by decide +kernel
theorem dX11_deedOf_115 : decode cX11_deedOf 115 = .ok (.iadd, 1) := by decide +kernel
theorem dX11_deedOf_116 : decode cX11_deedOf 116 = .ok (.goto 5, 3) := by decide +kernel
theorem dX11_deedOf_119 : decode cX11_deedOf 119 = .ok (.bipush 21, 2) := by decide +kernel
theorem dX11_deedOf_121 : decode cX11_deedOf 121 = .ok (.ireturn, 1) := by decide +kernel
theorem dX11_can_0 : decode cX11_can 0 = .ok (.aload_n 0, 1) := by decide +kernel
theorem dX11_can_1 : decode cX11_can 1 = .ok (.iload_n 1, 1) := by decide +kernel
theorem dX11_can_2 : decode cX11_can 2 = .ok (.iload_n 2, 1) := by decide +kernel
theorem dX11_can_3 : decode cX11_can 3 = .ok (.iload_n 3, 1) := by decide +kernel
theorem dX11_can_4 : decode cX11_can 4 = .ok (.invokevirtual 224, 3) := by decide +kernel
theorem dX11_can_7 : decode cX11_can 7 = .ok (.istore 4, 2) := by decide +kernel
theorem dX11_can_9 : decode cX11_can 9 = .ok (.iload 4, 2) := by decide +kernel
theorem dX11_can_11 : decode cX11_can 11 = .ok (.ifCond .ge 8, 3) := by decide +kernel
theorem dX11_can_14 : decode cX11_can 14 = .ok (.iload 4, 2) := by decide +kernel
theorem dX11_can_16 : decode cX11_can 16 = .ok (.goto 21, 3) := by decide +kernel
theorem dX11_can_19 : decode cX11_can 19 = .ok (.aload_n 0, 1) := by decide +kernel
theorem dX11_can_20 : decode cX11_can 20 = .ok (.aload_n 0, 1) := by decide +kernel
theorem dX11_can_21 : decode cX11_can 21 = .ok (.getfield 156, 3) := by decide +kernel
theorem dX11_can_24 : decode cX11_can 24 = .ok (.iload 4, 2) := by decide +kernel
theorem dX11_can_26 : decode cX11_can 26 = .ok (.invokevirtual 227, 3) := by decide +kernel
theorem dX11_can_29 : decode cX11_can 29 = .ok (.ifCond .eq 7, 3) := by decide +kernel
theorem dX11_can_32 : decode cX11_can 32 = .ok (.iconst 1, 1) := by decide +kernel
theorem dX11_can_33 : decode cX11_can 33 = .ok (.goto 4, 3) := by decide +kernel
theorem dX11_can_36 : decode cX11_can 36 = .ok (.iconst 0, 1) := by decide +kernel
theorem dX11_can_37 : decode cX11_can 37 = .ok (.ireturn, 1) := by decide +kernel
theorem dX11_act_0 : decode cX11_act 0 = .ok (.aload_n 0, 1) := by decide +kernel
theorem dX11_act_1 : decode cX11_act 1 = .ok (.iload_n 1, 1) := by decide +kernel
theorem dX11_act_2 : decode cX11_act 2 = .ok (.iload_n 2, 1) := by decide +kernel
theorem dX11_act_3 : decode cX11_act 3 = .ok (.iload_n 3, 1) := by decide +kernel
theorem dX11_act_4 : decode cX11_act 4 = .ok (.invokevirtual 224, 3) := by decide +kernel
theorem dX11_act_7 : decode cX11_act 7 = .ok (.istore 4, 2) := by decide +kernel
theorem dX11_act_9 : decode cX11_act 9 = .ok (.iload 4, 2) := by decide +kernel
theorem dX11_act_11 : decode cX11_act 11 = .ok (.ifCond .ge 6, 3) := by decide +kernel
theorem dX11_act_14 : decode cX11_act 14 = .ok (.iload 4, 2) := by decide +kernel
theorem dX11_act_16 : decode cX11_act 16 = .ok (.ireturn, 1) := by decide +kernel
theorem dX11_act_17 : decode cX11_act 17 = .ok (.aload_n 0, 1) := by decide +kernel
theorem dX11_act_18 : decode cX11_act 18 = .ok (.aload_n 0, 1) := by decide +kernel
theorem dX11_act_19 : decode cX11_act 19 = .ok (.getfield 156, 3) := by decide +kernel
theorem dX11_act_22 : decode cX11_act 22 = .ok (.iload 4, 2) := by decide +kernel
theorem dX11_act_24 : decode cX11_act 24 = .ok (.invokevirtual 227, 3) := by decide +kernel
theorem dX11_act_27 : decode cX11_act 27 = .ok (.ifCond .ne 6, 3) := by decide +kernel
theorem dX11_act_30 : decode cX11_act 30 = .ok (.bipush (-4), 2) := by decide +kernel
theorem dX11_act_32 : decode cX11_act 32 = .ok (.ireturn, 1) := by decide +kernel
theorem dX11_act_33 : decode cX11_act 33 = .ok (.aload_n 0, 1) := by decide +kernel
theorem dX11_act_34 : decode cX11_act 34 = .ok (.getfield 159, 3) := by decide +kernel
theorem dX11_act_37 : decode cX11_act 37 = .ok (.sipush 9999, 3) := by decide +kernel
theorem dX11_act_40 : decode cX11_act 40 = .ok (.if_icmp .ne 6, 3) := by decide +kernel
theorem dX11_act_43 : decode cX11_act 43 = .ok (.bipush (-5), 2) := by decide +kernel
theorem dX11_act_45 : decode cX11_act 45 = .ok (.ireturn, 1) := by decide +kernel
theorem dX11_act_46 : decode cX11_act 46 = .ok (.iconst 0, 1) := by decide +kernel
theorem dX11_act_47 : decode cX11_act 47 = .ok (.istore 5, 2) := by decide +kernel
theorem dX11_act_49 : decode cX11_act 49 = .ok (.iload 5, 2) := by decide +kernel
theorem dX11_act_51 : decode cX11_act 51 = .ok (.bipush 7, 2) := by decide +kernel
theorem dX11_act_53 : decode cX11_act 53 = .ok (.if_icmp .ge 34, 3) := by decide +kernel
theorem dX11_act_56 : decode cX11_act 56 = .ok (.aload_n 0, 1) := by decide +kernel
theorem dX11_act_57 : decode cX11_act 57 = .ok (.getfield 162, 3) := by decide +kernel
theorem dX11_act_60 : decode cX11_act 60 = .ok (.bipush 8, 2) := by decide +kernel
theorem dX11_act_62 : decode cX11_act 62 = .ok (.if_icmp .ne 25, 3) := by decide +kernel
theorem dX11_act_65 : decode cX11_act 65 = .ok (.aload_n 0, 1) := by decide +kernel
theorem dX11_act_66 : decode cX11_act 66 = .ok (.getfield 23, 3) := by decide +kernel
theorem dX11_act_69 : decode cX11_act 69 = .ok (.iload 5, 2) := by decide +kernel
theorem dX11_act_71 : decode cX11_act 71 = .ok (.aload_n 0, 1) := by decide +kernel
theorem dX11_act_72 : decode cX11_act 72 = .ok (.getfield 23, 3) := by decide +kernel
theorem dX11_act_75 : decode cX11_act 75 = .ok (.iload 5, 2) := by decide +kernel
theorem dX11_act_77 : decode cX11_act 77 = .ok (.iconst 1, 1) := by decide +kernel
theorem dX11_act_78 : decode cX11_act 78 = .ok (.iadd, 1) := by decide +kernel
theorem dX11_act_79 : decode cX11_act 79 = .ok (.iaload, 1) := by decide +kernel
theorem dX11_act_80 : decode cX11_act 80 = .ok (.iastore, 1) := by decide +kernel
theorem dX11_act_81 : decode cX11_act 81 = .ok (.iinc 5 1, 3) := by decide +kernel
theorem dX11_act_84 : decode cX11_act 84 = .ok (.goto (-35), 3) := by decide +kernel
theorem dX11_act_87 : decode cX11_act 87 = .ok (.aload_n 0, 1) := by decide +kernel
theorem dX11_act_88 : decode cX11_act 88 = .ok (.dup, 1) := by decide +kernel
theorem dX11_act_89 : decode cX11_act 89 = .ok (.getfield 162, 3) := by decide +kernel
theorem dX11_act_92 : decode cX11_act 92 = .ok (.aload_n 0, 1) := by decide +kernel
theorem dX11_act_93 : decode cX11_act 93 = .ok (.getfield 162, 3) := by decide +kernel
theorem dX11_act_96 : decode cX11_act 96 = .ok (.bipush 8, 2) := by decide +kernel
theorem dX11_act_98 : decode cX11_act 98 = .ok (.if_icmp .ne 7, 3) := by decide +kernel
theorem dX11_act_101 : decode cX11_act 101 = .ok (.iconst 1, 1) := by decide +kernel
theorem dX11_act_102 : decode cX11_act 102 = .ok (.goto 4, 3) := by decide +kernel
theorem dX11_act_105 : decode cX11_act 105 = .ok (.iconst 0, 1) := by decide +kernel
theorem dX11_act_106 : decode cX11_act 106 = .ok (.isub, 1) := by decide +kernel
theorem dX11_act_107 : decode cX11_act 107 = .ok (.putfield 162, 3) := by decide +kernel
theorem dX11_act_110 : decode cX11_act 110 = .ok (.aload_n 0, 1) := by decide +kernel
theorem dX11_act_111 : decode cX11_act 111 = .ok (.getfield 23, 3) := by decide +kernel
theorem dX11_act_114 : decode cX11_act 114 = .ok (.aload_n 0, 1) := by decide +kernel
theorem dX11_act_115 : decode cX11_act 115 = .ok (.getfield 162, 3) := by decide +kernel
theorem dX11_act_118 : decode cX11_act 118 = .ok (.aload_n 0, 1) := by decide +kernel
theorem dX11_act_119 : decode cX11_act 119 = .ok (.getfield 156, 3) := by decide +kernel
theorem dX11_act_122 : decode cX11_act 122 = .ok (.iastore, 1) := by decide +kernel
theorem dX11_act_123 : decode cX11_act 123 = .ok (.aload_n 0, 1) := by decide +kernel
theorem dX11_act_124 : decode cX11_act 124 = .ok (.dup, 1) := by decide +kernel
theorem dX11_act_125 : decode cX11_act 125 = .ok (.getfield 162, 3) := by decide +kernel
theorem dX11_act_128 : decode cX11_act 128 = .ok (.iconst 1, 1) := by decide +kernel
theorem dX11_act_129 : decode cX11_act 129 = .ok (.iadd, 1) := by decide +kernel
theorem dX11_act_130 : decode cX11_act 130 = .ok (.putfield 162, 3) := by decide +kernel
theorem dX11_act_133 : decode cX11_act 133 = .ok (.aload_n 0, 1) := by decide +kernel
theorem dX11_act_134 : decode cX11_act 134 = .ok (.aload_n 0, 1) := by decide +kernel
theorem dX11_act_135 : decode cX11_act 135 = .ok (.aload_n 0, 1) := by decide +kernel
theorem dX11_act_136 : decode cX11_act 136 = .ok (.getfield 156, 3) := by decide +kernel
theorem dX11_act_139 : decode cX11_act 139 = .ok (.iload 4, 2) := by decide +kernel
theorem dX11_act_141 : decode cX11_act 141 = .ok (.invokevirtual 230, 3) := by decide +kernel
theorem dX11_act_144 : decode cX11_act 144 = .ok (.putfield 156, 3) := by decide +kernel
theorem dX11_act_147 : decode cX11_act 147 = .ok (.aload_n 0, 1) := by decide +kernel
theorem dX11_act_148 : decode cX11_act 148 = .ok (.dup, 1) := by decide +kernel
theorem dX11_act_149 : decode cX11_act 149 = .ok (.getfield 159, 3) := by decide +kernel
theorem dX11_act_152 : decode cX11_act 152 = .ok (.iconst 1, 1) := by decide +kernel
theorem dX11_act_153 : decode cX11_act 153 = .ok (.iadd, 1) := by decide +kernel
theorem dX11_act_154 : decode cX11_act 154 = .ok (.putfield 159, 3) := by decide +kernel
theorem dX11_act_157 : decode cX11_act 157 = .ok (.aload_n 0, 1) := by decide +kernel
theorem dX11_act_158 : decode cX11_act 158 = .ok (.getfield 200, 3) := by decide +kernel
theorem dX11_act_161 : decode cX11_act 161 = .ok (.ireturn, 1) := by decide +kernel
theorem dX11_undo_0 : decode cX11_undo 0 = .ok (.aload_n 0, 1) := by decide +kernel
theorem dX11_undo_1 : decode cX11_undo 1 = .ok (.getfield 162, 3) := by decide +kernel
theorem dX11_undo_4 : decode cX11_undo 4 = .ok (.ifCond .ne 6, 3) := by decide +kernel
theorem dX11_undo_7 : decode cX11_undo 7 = .ok (.bipush (-4), 2) := by decide +kernel
theorem dX11_undo_9 : decode cX11_undo 9 = .ok (.ireturn, 1) := by decide +kernel
theorem dX11_undo_10 : decode cX11_undo 10 = .ok (.aload_n 0, 1) := by decide +kernel
theorem dX11_undo_11 : decode cX11_undo 11 = .ok (.dup, 1) := by decide +kernel
theorem dX11_undo_12 : decode cX11_undo 12 = .ok (.getfield 162, 3) := by decide +kernel
theorem dX11_undo_15 : decode cX11_undo 15 = .ok (.iconst 1, 1) := by decide +kernel
theorem dX11_undo_16 : decode cX11_undo 16 = .ok (.isub, 1) := by decide +kernel
theorem dX11_undo_17 : decode cX11_undo 17 = .ok (.putfield 162, 3) := by decide +kernel
theorem dX11_undo_20 : decode cX11_undo 20 = .ok (.aload_n 0, 1) := by decide +kernel
theorem dX11_undo_21 : decode cX11_undo 21 = .ok (.aload_n 0, 1) := by decide +kernel
theorem dX11_undo_22 : decode cX11_undo 22 = .ok (.getfield 23, 3) := by decide +kernel
theorem dX11_undo_25 : decode cX11_undo 25 = .ok (.aload_n 0, 1) := by decide +kernel
theorem dX11_undo_26 : decode cX11_undo 26 = .ok (.getfield 162, 3) := by decide +kernel
theorem dX11_undo_29 : decode cX11_undo 29 = .ok (.iaload, 1) := by decide +kernel
theorem dX11_undo_30 : decode cX11_undo 30 = .ok (.putfield 156, 3) := by decide +kernel
theorem dX11_undo_33 : decode cX11_undo 33 = .ok (.aload_n 0, 1) := by decide +kernel
theorem dX11_undo_34 : decode cX11_undo 34 = .ok (.dup, 1) := by decide +kernel
theorem dX11_undo_35 : decode cX11_undo 35 = .ok (.getfield 159, 3) := by decide +kernel
theorem dX11_undo_38 : decode cX11_undo 38 = .ok (.iconst 1, 1) := by decide +kernel
theorem dX11_undo_39 : decode cX11_undo 39 = .ok (.isub, 1) := by decide +kernel
theorem dX11_undo_40 : decode cX11_undo 40 = .ok (.putfield 159, 3) := by decide +kernel
theorem dX11_undo_43 : decode cX11_undo 43 = .ok (.aload_n 0, 1) := by decide +kernel
theorem dX11_undo_44 : decode cX11_undo 44 = .ok (.getfield 162, 3) := by decide +kernel
theorem dX11_undo_47 : decode cX11_undo 47 = .ok (.ireturn, 1) := by decide +kernel
theorem dX11_keep_0 : decode cX11_keep 0 = .ok (.iload_n 1, 1) := by decide +kernel
theorem dX11_keep_1 : decode cX11_keep 1 = .ok (.i2l, 1) := by decide +kernel
theorem dX11_keep_2 : decode cX11_keep 2 = .ok (.lconst 0, 1) := by decide +kernel
theorem dX11_keep_3 : decode cX11_keep 3 = .ok (.lconst 1, 1) := by decide +kernel
theorem dX11_keep_4 : decode cX11_keep 4 = .ok (.invokestatic 60, 3) := by decide +kernel
theorem dX11_keep_7 : decode cX11_keep 7 = .ok (.ifCond .ne 6, 3) := by decide +kernel
theorem dX11_keep_10 : decode cX11_keep 10 = .ok (.bipush (-2), 2) := by decide +kernel
theorem dX11_keep_12 : decode cX11_keep 12 = .ok (.ireturn, 1) := by decide +kernel
theorem dX11_keep_13 : decode cX11_keep 13 = .ok (.aload_n 0, 1) := by decide +kernel
theorem dX11_keep_14 : decode cX11_keep 14 = .ok (.getfield 26, 3) := by decide +kernel
theorem dX11_keep_17 : decode cX11_keep 17 = .ok (.iload_n 1, 1) := by decide +kernel
theorem dX11_keep_18 : decode cX11_keep 18 = .ok (.aload_n 0, 1) := by decide +kernel
theorem dX11_keep_19 : decode cX11_keep 19 = .ok (.getfield 156, 3) := by decide +kernel
theorem dX11_keep_22 : decode cX11_keep 22 = .ok (.iastore, 1) := by decide +kernel
theorem dX11_keep_23 : decode cX11_keep 23 = .ok (.aload_n 0, 1) := by decide +kernel
theorem dX11_keep_24 : decode cX11_keep 24 = .ok (.getfield 29, 3) := by decide +kernel
theorem dX11_keep_27 : decode cX11_keep 27 = .ok (.iload_n 1, 1) := by decide +kernel
theorem dX11_keep_28 : decode cX11_keep 28 = .ok (.aload_n 0, 1) := by decide +kernel
theorem dX11_keep_29 : decode cX11_keep 29 = .ok (.getfield 159, 3) := by decide +kernel
theorem dX11_keep_32 : decode cX11_keep 32 = .ok (.iastore, 1) := by decide +kernel
theorem dX11_keep_33 : decode cX11_keep 33 = .ok (.aload_n 0, 1) := by decide +kernel
theorem dX11_keep_34 : decode cX11_keep 34 = .ok (.getfield 32, 3) := by decide +kernel
theorem dX11_keep_37 : decode cX11_keep 37 = .ok (.iload_n 1, 1) := by decide +kernel
theorem dX11_keep_38 : decode cX11_keep 38 = .ok (.iconst 1, 1) := by decide +kernel
theorem dX11_keep_39 : decode cX11_keep 39 = .ok (.bastore, 1) := by decide +kernel
theorem dX11_keep_40 : decode cX11_keep 40 = .ok (.aload_n 0, 1) := by decide +kernel
theorem dX11_keep_41 : decode cX11_keep 41 = .ok (.getfield 159, 3) := by decide +kernel
theorem dX11_keep_44 : decode cX11_keep 44 = .ok (.ireturn, 1) := by decide +kernel
theorem dX11_back_0 : decode cX11_back 0 = .ok (.iload_n 1, 1) := by decide +kernel
theorem dX11_back_1 : decode cX11_back 1 = .ok (.i2l, 1) := by decide +kernel
theorem dX11_back_2 : decode cX11_back 2 = .ok (.lconst 0, 1) := by decide +kernel
theorem dX11_back_3 : decode cX11_back 3 = .ok (.lconst 1, 1) := by decide +kernel
theorem dX11_back_4 : decode cX11_back 4 = .ok (.invokestatic 60, 3) := by decide +kernel
theorem dX11_back_7 : decode cX11_back 7 = .ok (.ifCond .ne 6, 3) := by decide +kernel
theorem dX11_back_10 : decode cX11_back 10 = .ok (.bipush (-2), 2) := by decide +kernel
theorem dX11_back_12 : decode cX11_back 12 = .ok (.ireturn, 1) := by decide +kernel
theorem dX11_back_13 : decode cX11_back 13 = .ok (.aload_n 0, 1) := by decide +kernel
theorem dX11_back_14 : decode cX11_back 14 = .ok (.getfield 32, 3) := by decide +kernel
theorem dX11_back_17 : decode cX11_back 17 = .ok (.iload_n 1, 1) := by decide +kernel
theorem dX11_back_18 : decode cX11_back 18 = .ok (.baload, 1) := by decide +kernel
theorem dX11_back_19 : decode cX11_back 19 = .ok (.ifCond .ne 6, 3) := by decide +kernel
theorem dX11_back_22 : decode cX11_back 22 = .ok (.bipush (-4), 2) := by decide +kernel
theorem dX11_back_24 : decode cX11_back 24 = .ok (.ireturn, 1) := by decide +kernel
theorem dX11_back_25 : decode cX11_back 25 = .ok (.aload_n 0, 1) := by decide +kernel
theorem dX11_back_26 : decode cX11_back 26 = .ok (.aload_n 0, 1) := by decide +kernel
theorem dX11_back_27 : decode cX11_back 27 = .ok (.getfield 26, 3) := by decide +kernel
theorem dX11_back_30 : decode cX11_back 30 = .ok (.iload_n 1, 1) := by decide +kernel
theorem dX11_back_31 : decode cX11_back 31 = .ok (.iaload, 1) := by decide +kernel
theorem dX11_back_32 : decode cX11_back 32 = .ok (.putfield 156, 3) := by decide +kernel
theorem dX11_back_35 : decode cX11_back 35 = .ok (.aload_n 0, 1) := by decide +kernel
theorem dX11_back_36 : decode cX11_back 36 = .ok (.aload_n 0, 1) := by decide +kernel
theorem dX11_back_37 : decode cX11_back 37 = .ok (.getfield 29, 3) := by decide +kernel
theorem dX11_back_40 : decode cX11_back 40 = .ok (.iload_n 1, 1) := by decide +kernel
theorem dX11_back_41 : decode cX11_back 41 = .ok (.iaload, 1) := by decide +kernel
theorem dX11_back_42 : decode cX11_back 42 = .ok (.putfield 159, 3) := by decide +kernel
theorem dX11_back_45 : decode cX11_back 45 = .ok (.aload_n 0, 1) := by decide +kernel
theorem dX11_back_46 : decode cX11_back 46 = .ok (.iconst 0, 1) := by decide +kernel
theorem dX11_back_47 : decode cX11_back 47 = .ok (.putfield 162, 3) := by decide +kernel
theorem dX11_back_50 : decode cX11_back 50 = .ok (.aload_n 0, 1) := by decide +kernel
theorem dX11_back_51 : decode cX11_back 51 = .ok (.getfield 159, 3) := by decide +kernel
theorem dX11_back_54 : decode cX11_back 54 = .ok (.ireturn, 1) := by decide +kernel
theorem dX11_put_0 : decode cX11_put 0 = .ok (.aload_n 0, 1) := by decide +kernel
theorem dX11_put_1 : decode cX11_put 1 = .ok (.getfield 37, 3) := by decide +kernel
theorem dX11_put_4 : decode cX11_put 4 = .ok (.iload_n 1, 1) := by decide +kernel
theorem dX11_put_5 : decode cX11_put 5 = .ok (.iaload, 1) := by decide +kernel
theorem dX11_put_6 : decode cX11_put 6 = .ok (.iconst (-1), 1) := by decide +kernel
theorem dX11_put_7 : decode cX11_put 7 = .ok (.if_icmp .ne 30, 3) := by decide +kernel
theorem dX11_put_10 : decode cX11_put 10 = .ok (.aload_n 0, 1) := by decide +kernel
theorem dX11_put_11 : decode cX11_put 11 = .ok (.getfield 37, 3) := by decide +kernel
theorem dX11_put_14 : decode cX11_put 14 = .ok (.iload_n 1, 1) := by decide +kernel
theorem dX11_put_15 : decode cX11_put 15 = .ok (.iload_n 2, 1) := by decide +kernel
theorem dX11_put_16 : decode cX11_put 16 = .ok (.iastore, 1) := by decide +kernel
theorem dX11_put_17 : decode cX11_put 17 = .ok (.aload_n 0, 1) := by decide +kernel
theorem dX11_put_18 : decode cX11_put 18 = .ok (.getfield 40, 3) := by decide +kernel
theorem dX11_put_21 : decode cX11_put 21 = .ok (.aload_n 0, 1) := by decide +kernel
theorem dX11_put_22 : decode cX11_put 22 = .ok (.getfield 233, 3) := by decide +kernel
theorem dX11_put_25 : decode cX11_put 25 = .ok (.iload_n 1, 1) := by decide +kernel
theorem dX11_put_26 : decode cX11_put 26 = .ok (.iastore, 1) := by decide +kernel
theorem dX11_put_27 : decode cX11_put 27 = .ok (.aload_n 0, 1) := by decide +kernel
theorem dX11_put_28 : decode cX11_put 28 = .ok (.dup, 1) := by decide +kernel
theorem dX11_put_29 : decode cX11_put 29 = .ok (.getfield 233, 3) := by decide +kernel
theorem dX11_put_32 : decode cX11_put 32 = .ok (.iconst 1, 1) := by decide +kernel
theorem dX11_put_33 : decode cX11_put 33 = .ok (.iadd, 1) := by decide +kernel
theorem dX11_put_34 : decode cX11_put 34 = .ok (.putfield 233, 3) := by decide +kernel
theorem dX11_put_37 : decode cX11_put 37 = .ok (.return_, 1) := by decide +kernel
theorem dX11_clearFars_0 : decode cX11_clearFars 0 = .ok (.iconst 0, 1) := by decide +kernel
theorem dX11_clearFars_1 : decode cX11_clearFars 1 = .ok (.istore_n 1, 1) := by decide +kernel
theorem dX11_clearFars_2 : decode cX11_clearFars 2 = .ok (.iload_n 1, 1) := by decide +kernel
theorem dX11_clearFars_3 : decode cX11_clearFars 3 = .ok (.ldc 36, 2) := by decide +kernel
theorem dX11_clearFars_5 : decode cX11_clearFars 5 = .ok (.if_icmp .ge 16, 3) := by decide +kernel
theorem dX11_clearFars_8 : decode cX11_clearFars 8 = .ok (.aload_n 0, 1) := by decide +kernel
theorem dX11_clearFars_9 : decode cX11_clearFars 9 = .ok (.getfield 37, 3) := by decide +kernel
theorem dX11_clearFars_12 : decode cX11_clearFars 12 = .ok (.iload_n 1, 1) := by decide +kernel
theorem dX11_clearFars_13 : decode cX11_clearFars 13 = .ok (.iconst (-1), 1) := by decide +kernel
theorem dX11_clearFars_14 : decode cX11_clearFars 14 = .ok (.iastore, 1) := by decide +kernel
theorem dX11_clearFars_15 : decode cX11_clearFars 15 = .ok (.iinc 1 1, 3) := by decide +kernel
theorem dX11_clearFars_18 : decode cX11_clearFars 18 = .ok (.goto (-16), 3) := by decide +kernel
theorem dX11_clearFars_21 : decode cX11_clearFars 21 = .ok (.aload_n 0, 1) := by decide +kernel
theorem dX11_clearFars_22 : decode cX11_clearFars 22 = .ok (.iconst 0, 1) := by decide +kernel
theorem dX11_clearFars_23 : decode cX11_clearFars 23 = .ok (.putfield 233, 3) := by decide +kernel
theorem dX11_clearFars_26 : decode cX11_clearFars 26 = .ok (.return_, 1) := by decide +kernel
theorem dX11_isBy_0 : decode cX11_isBy 0 = .ok (.iload_n 0, 1) := by decide +kernel
theorem dX11_isBy_1 : decode cX11_isBy 1 = .ok (.bipush 21, 2) := by decide +kernel
theorem dX11_isBy_3 : decode cX11_isBy 3 = .ok (.if_icmp .eq 14, 3) := by decide +kernel
theorem dX11_isBy_6 : decode cX11_isBy 6 = .ok (.iload_n 1, 1) := by decide +kernel
theorem dX11_isBy_7 : decode cX11_isBy 7 = .ok (.iload_n 0, 1) := by decide +kernel
theorem dX11_isBy_8 : decode cX11_isBy 8 = .ok (.bipush 7, 2) := by decide +kernel
theorem dX11_isBy_10 : decode cX11_isBy 10 = .ok (.idiv, 1) := by decide +kernel
theorem dX11_isBy_11 : decode cX11_isBy 11 = .ok (.invokestatic 174, 3) := by decide +kernel
theorem dX11_isBy_14 : decode cX11_isBy 14 = .ok (.ifCond .eq 7, 3) := by decide +kernel
theorem dX11_isBy_17 : decode cX11_isBy 17 = .ok (.iconst 1, 1) := by decide +kernel
theorem dX11_isBy_18 : decode cX11_isBy 18 = .ok (.goto 4, 3) := by decide +kernel
theorem dX11_isBy_21 : decode cX11_isBy 21 = .ok (.iconst 0, 1) := by decide +kernel
theorem dX11_isBy_22 : decode cX11_isBy 22 = .ok (.ireturn, 1) := by decide +kernel
theorem dX11_layFars_0 : decode cX11_layFars 0 = .ok (.aload_n 0, 1) := by decide +kernel
theorem dX11_layFars_1 : decode cX11_layFars 1 = .ok (.invokevirtual 236, 3) := by decide +kernel
theorem dX11_layFars_4 : decode cX11_layFars 4 = .ok (.aload_n 0, 1) := by decide +kernel
theorem dX11_layFars_5 : decode cX11_layFars 5 = .ok (.iload_n 1, 1) := by decide +kernel
theorem dX11_layFars_6 : decode cX11_layFars 6 = .ok (.iconst 0, 1) := by decide +kernel
theorem dX11_layFars_7 : decode cX11_layFars 7 = .ok (.invokevirtual 239, 3) := by decide +kernel
theorem dX11_layFars_10 : decode cX11_layFars 10 = .ok (.iconst 0, 1) := by decide +kernel
theorem dX11_layFars_11 : decode cX11_layFars 11 = .ok (.istore 4, 2) := by decide +kernel
theorem dX11_layFars_13 : decode cX11_layFars 13 = .ok (.iload 4, 2) := by decide +kernel
theorem dX11_layFars_15 : decode cX11_layFars 15 = .ok (.aload_n 0, 1) := by decide +kernel
theorem dX11_layFars_16 : decode cX11_layFars 16 = .ok (.getfield 233, 3) := by decide +kernel
theorem dX11_layFars_19 : decode cX11_layFars 19 = .ok (.if_icmp .ge 88, 3) := by decide +kernel
theorem dX11_layFars_22 : decode cX11_layFars 22 = .ok (.aload_n 0, 1) := by decide +kernel
theorem dX11_layFars_23 : decode cX11_layFars 23 = .ok (.getfield 40, 3) := by decide +kernel
theorem dX11_layFars_26 : decode cX11_layFars 26 = .ok (.iload 4, 2) := by decide +kernel
theorem dX11_layFars_28 : decode cX11_layFars 28 = .ok (.iaload, 1) := by decide +kernel
theorem dX11_layFars_29 : decode cX11_layFars 29 = .ok (.istore 5, 2) := by decide +kernel
theorem dX11_layFars_31 : decode cX11_layFars 31 = .ok (.iconst 0, 1) := by decide +kernel
theorem dX11_layFars_32 : decode cX11_layFars 32 = .ok (.istore 6, 2) := by decide +kernel
theorem dX11_layFars_34 : decode cX11_layFars 34 = .ok (.iload 6, 2) := by decide +kernel
theorem dX11_layFars_36 : decode cX11_layFars 36 = .ok (.bipush 22, 2) := by decide +kernel
theorem dX11_layFars_38 : decode cX11_layFars 38 = .ok (.if_icmp .ge 63, 3) := by decide +kernel
theorem dX11_layFars_41 : decode cX11_layFars 41 = .ok (.iload 6, 2) := by decide +kernel
theorem dX11_layFars_43 : decode cX11_layFars 43 = .ok (.iload_n 2, 1) := by decide +kernel
theorem dX11_layFars_44 : decode cX11_layFars 44 = .ok (.invokestatic 243, 3) := by decide +kernel
theorem dX11_layFars_47 : decode cX11_layFars 47 = .ok (.ifCond .eq 48, 3) := by decide +kernel
theorem dX11_layFars_50 : decode cX11_layFars 50 = .ok (.aload_n 0, 1) := by decide +kernel
theorem dX11_layFars_51 : decode cX11_layFars 51 = .ok (.iload 5, 2) := by decide +kernel
theorem dX11_layFars_53 : decode cX11_layFars 53 = .ok (.iload 6, 2) := by decide +kernel
theorem dX11_layFars_55 : decode cX11_layFars 55 = .ok (.invokevirtual 227, 3) := by decide +kernel
theorem dX11_layFars_58 : decode cX11_layFars 58 = .ok (.ifCond .eq 37, 3) := by decide +kernel
theorem dX11_layFars_61 : decode cX11_layFars 61 = .ok (.aload_n 0, 1) := by decide +kernel
theorem dX11_layFars_62 : decode cX11_layFars 62 = .ok (.iload 5, 2) := by decide +kernel
theorem dX11_layFars_64 : decode cX11_layFars 64 = .ok (.iload 6, 2) := by decide +kernel
theorem dX11_layFars_66 : decode cX11_layFars 66 = .ok (.invokevirtual 230, 3) := by decide +kernel
theorem dX11_layFars_69 : decode cX11_layFars 69 = .ok (.istore 7, 2) := by decide +kernel
theorem dX11_layFars_71 : decode cX11_layFars 71 = .ok (.aload_n 0, 1) := by decide +kernel
theorem dX11_layFars_72 : decode cX11_layFars 72 = .ok (.getfield 200, 3) := by decide +kernel
theorem dX11_layFars_75 : decode cX11_layFars 75 = .ok (.iload_n 3, 1) := by decide +kernel
theorem dX11_layFars_76 : decode cX11_layFars 76 = .ok (.iand, 1) := by decide +kernel
theorem dX11_layFars_77 : decode cX11_layFars 77 = .ok (.ifCond .ne 18, 3) := by decide +kernel
theorem dX11_layFars_80 : decode cX11_layFars 80 = .ok (.aload_n 0, 1) := by decide +kernel
theorem dX11_layFars_81 : decode cX11_layFars 81 = .ok (.iload 7, 2) := by decide +kernel
theorem dX11_layFars_83 : decode cX11_layFars 83 = .ok (.aload_n 0, 1) := by decide +kernel
theorem dX11_layFars_84 : decode cX11_layFars 84 = .ok (.getfield 37, 3) := by decide +kernel
theorem dX11_layFars_87 : decode cX11_layFars 87 = .ok (.iload 5, 2) := by decide +kernel
theorem dX11_layFars_89 : decode cX11_layFars 89 = .ok (.iaload, 1) := by decide +kernel
theorem dX11_layFars_90 : decode cX11_layFars 90 = .ok (.iconst 1, 1) := by decide +kernel
theorem dX11_layFars_91 : decode cX11_layFars 91 = .ok (.iadd, 1) := by decide +kernel
theorem dX11_layFars_92 : decode cX11_layFars 92 = .ok (.invokevirtual 239, 3) := by decide +kernel
theorem dX11_layFars_95 : decode cX11_layFars 95 = .ok (.iinc 6 1, 3) := by decide +kernel
theorem dX11_layFars_98 : decode cX11_layFars 98 = .ok (.goto (-64), 3) := by decide +kernel
theorem dX11_layFars_101 : decode cX11_layFars 101 = .ok (.iinc 4 1, 3) := by decide +kernel
theorem dX11_layFars_104 : decode cX11_layFars 104 = .ok (.goto (-91), 3) := by decide +kernel
theorem dX11_layFars_107 : decode cX11_layFars 107 = .ok (.return_, 1) := by decide +kernel
theorem dX11_layAll_0 : decode cX11_layAll 0 = .ok (.aload_n 0, 1) := by decide +kernel
theorem dX11_layAll_1 : decode cX11_layAll 1 = .ok (.iload_n 1, 1) := by decide +kernel
theorem dX11_layAll_2 : decode cX11_layAll 2 = .ok (.bipush 7, 2) := by decide +kernel
theorem dX11_layAll_4 : decode cX11_layAll 4 = .ok (.iconst 0, 1) := by decide +kernel
theorem dX11_layAll_5 : decode cX11_layAll 5 = .ok (.invokevirtual 246, 3) := by decide +kernel
theorem dX11_layAll_8 : decode cX11_layAll 8 = .ok (.return_, 1) := by decide +kernel
theorem dX11_fewestTo_0 : decode cX11_fewestTo 0 = .ok (.iconst 0, 1) := by decide +kernel
theorem dX11_fewestTo_1 : decode cX11_fewestTo 1 = .ok (.istore_n 2, 1) := by decide +kernel
theorem dX11_fewestTo_2 : decode cX11_fewestTo 2 = .ok (.iload_n 2, 1) := by decide +kernel
theorem dX11_fewestTo_3 : decode cX11_fewestTo 3 = .ok (.aload_n 0, 1) := by decide +kernel
theorem dX11_fewestTo_4 : decode cX11_fewestTo 4 = .ok (.getfield 233, 3) := by decide +kernel
theorem dX11_fewestTo_7 : decode cX11_fewestTo 7 = .ok (.if_icmp .ge 32, 3) := by decide +kernel
theorem dX11_fewestTo_10 : decode cX11_fewestTo 10 = .ok (.aload_n 0, 1) := by decide +kernel
theorem dX11_fewestTo_11 : decode cX11_fewestTo 11 = .ok (.getfield 40, 3) := by decide +kernel
theorem dX11_fewestTo_14 : decode cX11_fewestTo 14 = .ok (.iload_n 2, 1) := by decide +kernel
theorem dX11_fewestTo_15 : decode cX11_fewestTo 15 = .ok (.iaload, 1) := by decide +kernel
theorem dX11_fewestTo_16 : decode cX11_fewestTo 16 = .ok (.iload_n 1, 1) := by decide +kernel
theorem dX11_fewestTo_17 : decode cX11_fewestTo 17 = .ok (.iand, 1) := by decide +kernel
theorem dX11_fewestTo_18 : decode cX11_fewestTo 18 = .ok (.ifCond .ne 15, 3) := by decide +kernel
theorem dX11_fewestTo_21 : decode cX11_fewestTo 21 = .ok (.aload_n 0, 1) := by decide +kernel
theorem dX11_fewestTo_22 : decode cX11_fewestTo 22 = .ok (.getfield 37, 3) := by decide +kernel
theorem dX11_fewestTo_25 : decode cX11_fewestTo 25 = .ok (.aload_n 0, 1) := by decide +kernel
theorem dX11_fewestTo_26 : decode cX11_fewestTo 26 = .ok (.getfield 40, 3) := by decide +kernel
theorem dX11_fewestTo_29 : decode cX11_fewestTo 29 = .ok (.iload_n 2, 1) := by decide +kernel
theorem dX11_fewestTo_30 : decode cX11_fewestTo 30 = .ok (.iaload, 1) := by decide +kernel
theorem dX11_fewestTo_31 : decode cX11_fewestTo 31 = .ok (.iaload, 1) := by decide +kernel
theorem dX11_fewestTo_32 : decode cX11_fewestTo 32 = .ok (.ireturn, 1) := by decide +kernel
theorem dX11_fewestTo_33 : decode cX11_fewestTo 33 = .ok (.iinc 2 1, 3) := by decide +kernel
theorem dX11_fewestTo_36 : decode cX11_fewestTo 36 = .ok (.goto (-34), 3) := by decide +kernel
theorem dX11_fewestTo_39 : decode cX11_fewestTo 39 = .ok (.iconst (-1), 1) := by decide +kernel
theorem dX11_fewestTo_40 : decode cX11_fewestTo 40 = .ok (.ireturn, 1) := by decide +kernel
theorem dX11_isSet_0 : decode cX11_isSet 0 = .ok (.iload_n 1, 1) := by decide +kernel
theorem dX11_isSet_1 : decode cX11_isSet 1 = .ok (.i2l, 1) := by decide +kernel
theorem dX11_isSet_2 : decode cX11_isSet 2 = .ok (.lconst 0, 1) := by decide +kernel
theorem dX11_isSet_3 : decode cX11_isSet 3 = .ok (.iconst 1, 1) := by decide +kernel
theorem dX11_isSet_4 : decode cX11_isSet 4 = .ok (.aload_n 0, 1) := by decide +kernel
theorem dX11_isSet_5 : decode cX11_isSet 5 = .ok (.getfield 136, 3) := by decide +kernel
theorem dX11_isSet_8 : decode cX11_isSet 8 = .ok (.ishl, 1) := by decide +kernel
theorem dX11_isSet_9 : decode cX11_isSet 9 = .ok (.iconst 1, 1) := by decide +kernel
theorem dX11_isSet_10 : decode cX11_isSet 10 = .ok (.isub, 1) := by decide +kernel
theorem dX11_isSet_11 : decode cX11_isSet 11 = .ok (.i2l, 1) := by decide +kernel
theorem dX11_isSet_12 : decode cX11_isSet 12 = .ok (.invokestatic 60, 3) := by decide +kernel
theorem dX11_isSet_15 : decode cX11_isSet 15 = .ok (.ireturn, 1) := by decide +kernel
theorem dX11_fewest_0 : decode cX11_fewest 0 = .ok (.aload_n 0, 1) := by decide +kernel
theorem dX11_fewest_1 : decode cX11_fewest 1 = .ok (.iload_n 1, 1) := by decide +kernel
theorem dX11_fewest_2 : decode cX11_fewest 2 = .ok (.invokevirtual 250, 3) := by decide +kernel
theorem dX11_fewest_5 : decode cX11_fewest 5 = .ok (.ifCond .ne 6, 3) := by decide +kernel
theorem dX11_fewest_8 : decode cX11_fewest 8 = .ok (.bipush (-2), 2) := by decide +kernel
theorem dX11_fewest_10 : decode cX11_fewest 10 = .ok (.ireturn, 1) := by decide +kernel
theorem dX11_fewest_11 : decode cX11_fewest 11 = .ok (.aload_n 0, 1) := by decide +kernel
theorem dX11_fewest_12 : decode cX11_fewest 12 = .ok (.aload_n 0, 1) := by decide +kernel
theorem dX11_fewest_13 : decode cX11_fewest 13 = .ok (.getfield 156, 3) := by decide +kernel
theorem dX11_fewest_16 : decode cX11_fewest 16 = .ok (.invokevirtual 253, 3) := by decide +kernel
theorem dX11_fewest_19 : decode cX11_fewest 19 = .ok (.aload_n 0, 1) := by decide +kernel
theorem dX11_fewest_20 : decode cX11_fewest 20 = .ok (.iload_n 1, 1) := by decide +kernel
theorem dX11_fewest_21 : decode cX11_fewest 21 = .ok (.invokevirtual 256, 3) := by decide +kernel
theorem dX11_fewest_24 : decode cX11_fewest 24 = .ok (.ireturn, 1) := by decide +kernel
theorem dX11_leads_0 : decode cX11_leads 0 = .ok (.aload_n 0, 1) := by decide +kernel
theorem dX11_leads_1 : decode cX11_leads 1 = .ok (.iload_n 1, 1) := by decide +kernel
theorem dX11_leads_2 : decode cX11_leads 2 = .ok (.iload_n 2, 1) := by decide +kernel
theorem dX11_leads_3 : decode cX11_leads 3 = .ok (.invokevirtual 227, 3) := by decide +kernel
theorem dX11_leads_6 : decode cX11_leads 6 = .ok (.ifCond .ne 5, 3) := by decide +kernel
theorem dX11_leads_9 : decode cX11_leads 9 = .ok (.iconst 0, 1) := by decide +kernel
theorem dX11_leads_10 : decode cX11_leads 10 = .ok (.ireturn, 1) := by decide +kernel
theorem dX11_leads_11 : decode cX11_leads 11 = .ok (.aload_n 0, 1) := by decide +kernel
theorem dX11_leads_12 : decode cX11_leads 12 = .ok (.iload_n 1, 1) := by decide +kernel
theorem dX11_leads_13 : decode cX11_leads 13 = .ok (.iload_n 2, 1) := by decide +kernel
theorem dX11_leads_14 : decode cX11_leads 14 = .ok (.invokevirtual 230, 3) := by decide +kernel
theorem dX11_leads_17 : decode cX11_leads 17 = .ok (.istore_n 3, 1) := by decide +kernel
theorem dX11_leads_18 : decode cX11_leads 18 = .ok (.aload_n 0, 1) := by decide +kernel
theorem dX11_leads_19 : decode cX11_leads 19 = .ok (.getfield 46, 3) := by decide +kernel
theorem dX11_leads_22 : decode cX11_leads 22 = .ok (.iload_n 3, 1) := by decide +kernel
theorem dX11_leads_23 : decode cX11_leads 23 = .ok (.baload, 1) := by decide +kernel
theorem dX11_leads_24 : decode cX11_leads 24 = .ok (.ifCond .eq 24, 3) := by decide +kernel
theorem dX11_leads_27 : decode cX11_leads 27 = .ok (.aload_n 0, 1) := by decide +kernel
theorem dX11_leads_28 : decode cX11_leads 28 = .ok (.getfield 37, 3) := by decide +kernel
theorem dX11_leads_31 : decode cX11_leads 31 = .ok (.iload_n 3, 1) := by decide +kernel
theorem dX11_leads_32 : decode cX11_leads 32 = .ok (.iaload, 1) := by decide +kernel
theorem dX11_leads_33 : decode cX11_leads 33 = .ok (.aload_n 0, 1) := by decide +kernel
theorem dX11_leads_34 : decode cX11_leads 34 = .ok (.getfield 37, 3) := by decide +kernel
theorem dX11_leads_37 : decode cX11_leads 37 = .ok (.iload_n 1, 1) := by decide +kernel
theorem dX11_leads_38 : decode cX11_leads 38 = .ok (.iaload, 1) := by decide +kernel
theorem dX11_leads_39 : decode cX11_leads 39 = .ok (.iconst 1, 1) := by decide +kernel
theorem dX11_leads_40 : decode cX11_leads 40 = .ok (.iadd, 1) := by decide +kernel
theorem dX11_leads_41 : decode cX11_leads 41 = .ok (.if_icmp .ne 7, 3) := by decide +kernel
theorem dX11_leads_44 : decode cX11_leads 44 = .ok (.iconst 1, 1) := by decide +kernel
theorem dX11_leads_45 : decode cX11_leads 45 = .ok (.goto 4, 3) := by decide +kernel
theorem dX11_leads_48 : decode cX11_leads 48 = .ok (.iconst 0, 1) := by decide +kernel
theorem dX11_leads_49 : decode cX11_leads 49 = .ok (.ireturn, 1) := by decide +kernel
theorem dX11_layWays_0 : decode cX11_layWays 0 = .ok (.iconst 0, 1) := by decide +kernel
theorem dX11_layWays_1 : decode cX11_layWays 1 = .ok (.istore_n 3, 1) := by decide +kernel
theorem dX11_layWays_2 : decode cX11_layWays 2 = .ok (.iload_n 3, 1) := by decide +kernel
theorem dX11_layWays_3 : decode cX11_layWays 3 = .ok (.ldc 36, 2) := by decide +kernel
theorem dX11_layWays_5 : decode cX11_layWays 5 = .ok (.if_icmp .ge 16, 3) := by decide +kernel
theorem dX11_layWays_8 : decode cX11_layWays 8 = .ok (.aload_n 0, 1) := by decide +kernel
theorem dX11_layWays_9 : decode cX11_layWays 9 = .ok (.getfield 46, 3) := by decide +kernel
theorem dX11_layWays_12 : decode cX11_layWays 12 = .ok (.iload_n 3, 1) := by decide +kernel
theorem dX11_layWays_13 : decode cX11_layWays 13 = .ok (.iconst 0, 1) := by decide +kernel
theorem dX11_layWays_14 : decode cX11_layWays 14 = .ok (.bastore, 1) := by decide +kernel
theorem dX11_layWays_15 : decode cX11_layWays 15 = .ok (.iinc 3 1, 3) := by decide +kernel
theorem dX11_layWays_18 : decode cX11_layWays 18 = .ok (.goto (-16), 3) := by decide +kernel
theorem dX11_layWays_21 : decode cX11_layWays 21 = .ok (.aload_n 0, 1) := by decide +kernel
theorem dX11_layWays_22 : decode cX11_layWays 22 = .ok (.getfield 233, 3) := by decide +kernel
theorem dX11_layWays_25 : decode cX11_layWays 25 = .ok (.iconst 1, 1) := by decide +kernel
theorem dX11_layWays_26 : decode cX11_layWays 26 = .ok (.isub, 1) := by decide +kernel
theorem dX11_layWays_27 : decode cX11_layWays 27 = .ok (.istore_n 3, 1) := by decide +kernel
theorem dX11_layWays_28 : decode cX11_layWays 28 = .ok (.iload_n 3, 1) := by decide +kernel
theorem dX11_layWays_29 : decode cX11_layWays 29 = .ok (.ifCond .lt 93, 3) := by decide +kernel
theorem dX11_layWays_32 : decode cX11_layWays 32 = .ok (.aload_n 0, 1) := by decide +kernel
theorem dX11_layWays_33 : decode cX11_layWays 33 = .ok (.getfield 40, 3) := by decide +kernel
theorem dX11_layWays_36 : decode cX11_layWays 36 = .ok (.iload_n 3, 1) := by decide +kernel
theorem dX11_layWays_37 : decode cX11_layWays 37 = .ok (.iaload, 1) := by decide +kernel
theorem dX11_layWays_38 : decode cX11_layWays 38 = .ok (.istore 4, 2) := by decide +kernel
theorem dX11_layWays_40 : decode cX11_layWays 40 = .ok (.aload_n 0, 1) := by decide +kernel
theorem dX11_layWays_41 : decode cX11_layWays 41 = .ok (.getfield 37, 3) := by decide +kernel
theorem dX11_layWays_44 : decode cX11_layWays 44 = .ok (.iload 4, 2) := by decide +kernel
theorem dX11_layWays_46 : decode cX11_layWays 46 = .ok (.iaload, 1) := by decide +kernel
theorem dX11_layWays_47 : decode cX11_layWays 47 = .ok (.iload_n 2, 1) := by decide +kernel
theorem dX11_layWays_48 : decode cX11_layWays 48 = .ok (.if_icmp .ne 14, 3) := by decide +kernel
theorem dX11_layWays_51 : decode cX11_layWays 51 = .ok (.iload 4, 2) := by decide +kernel
theorem dX11_layWays_53 : decode cX11_layWays 53 = .ok (.iload_n 1, 1) := by decide +kernel
theorem dX11_layWays_54 : decode cX11_layWays 54 = .ok (.iand, 1) := by decide +kernel
theorem dX11_layWays_55 : decode cX11_layWays 55 = .ok (.ifCond .ne 7, 3) := by decide +kernel
theorem dX11_layWays_58 : decode cX11_layWays 58 = .ok (.iconst 1, 1) := by decide +kernel
theorem dX11_layWays_59 : decode cX11_layWays 59 = .ok (.goto 4, 3) := by decide +kernel
theorem dX11_layWays_62 : decode cX11_layWays 62 = .ok (.iconst 0, 1) := by decide +kernel
theorem dX11_layWays_63 : decode cX11_layWays 63 = .ok (.istore 5, 2) := by decide +kernel
theorem dX11_layWays_65 : decode cX11_layWays 65 = .ok (.iconst 0, 1) := by decide +kernel
theorem dX11_layWays_66 : decode cX11_layWays 66 = .ok (.istore 6, 2) := by decide +kernel
theorem dX11_layWays_68 : decode cX11_layWays 68 = .ok (.iload 6, 2) := by decide +kernel
theorem dX11_layWays_70 : decode cX11_layWays 70 = .ok (.bipush 22, 2) := by decide +kernel
theorem dX11_layWays_72 : decode cX11_layWays 72 = .ok (.if_icmp .ge 35, 3) := by decide +kernel
theorem dX11_layWays_75 : decode cX11_layWays 75 = .ok (.iload 5, 2) := by decide +kernel
theorem dX11_layWays_77 : decode cX11_layWays 77 = .ok (.ifCond .ne 30, 3) := by decide +kernel
theorem dX11_layWays_80 : decode cX11_layWays 80 = .ok (.aload_n 0, 1) := by decide +kernel
theorem dX11_layWays_81 : decode cX11_layWays 81 = .ok (.getfield 37, 3) := by decide +kernel
theorem dX11_layWays_84 : decode cX11_layWays 84 = .ok (.iload 4, 2) := by decide +kernel
theorem dX11_layWays_86 : decode cX11_layWays 86 = .ok (.iaload, 1) := by decide +kernel
theorem dX11_layWays_87 : decode cX11_layWays 87 = .ok (.iload_n 2, 1) := by decide +kernel
theorem dX11_layWays_88 : decode cX11_layWays 88 = .ok (.if_icmp .ge 19, 3) := by decide +kernel
theorem dX11_layWays_91 : decode cX11_layWays 91 = .ok (.aload_n 0, 1) := by decide +kernel
theorem dX11_layWays_92 : decode cX11_layWays 92 = .ok (.iload 4, 2) := by decide +kernel
theorem dX11_layWays_94 : decode cX11_layWays 94 = .ok (.iload 6, 2) := by decide +kernel
theorem dX11_layWays_96 : decode cX11_layWays 96 = .ok (.invokevirtual 259, 3) := by decide +kernel
theorem dX11_layWays_99 : decode cX11_layWays 99 = .ok (.istore 5, 2) := by decide +kernel
theorem dX11_layWays_101 : decode cX11_layWays 101 = .ok (.iinc 6 1, 3) := by decide +kernel
theorem dX11_layWays_104 : decode cX11_layWays 104 = .ok (.goto (-36), 3) := by decide +kernel
theorem dX11_layWays_107 : decode cX11_layWays 107 = .ok (.aload_n 0, 1) := by decide +kernel
theorem dX11_layWays_108 : decode cX11_layWays 108 = .ok (.getfield 46, 3) := by decide +kernel
theorem dX11_layWays_111 : decode cX11_layWays 111 = .ok (.iload 4, 2) := by decide +kernel
theorem dX11_layWays_113 : decode cX11_layWays 113 = .ok (.iload 5, 2) := by decide +kernel
theorem dX11_layWays_115 : decode cX11_layWays 115 = .ok (.bastore, 1) := by decide +kernel
theorem dX11_layWays_116 : decode cX11_layWays 116 = .ok (.iinc 3 (-1), 3) := by decide +kernel
theorem dX11_layWays_119 : decode cX11_layWays 119 = .ok (.goto (-91), 3) := by decide +kernel
theorem dX11_layWays_122 : decode cX11_layWays 122 = .ok (.return_, 1) := by decide +kernel
theorem dX11_way_0 : decode cX11_way 0 = .ok (.aload_n 0, 1) := by decide +kernel
theorem dX11_way_1 : decode cX11_way 1 = .ok (.iload_n 1, 1) := by decide +kernel
theorem dX11_way_2 : decode cX11_way 2 = .ok (.invokevirtual 250, 3) := by decide +kernel
theorem dX11_way_5 : decode cX11_way 5 = .ok (.ifCond .ne 6, 3) := by decide +kernel
theorem dX11_way_8 : decode cX11_way 8 = .ok (.bipush (-2), 2) := by decide +kernel
theorem dX11_way_10 : decode cX11_way 10 = .ok (.ireturn, 1) := by decide +kernel
theorem dX11_way_11 : decode cX11_way 11 = .ok (.iload_n 2, 1) := by decide +kernel
theorem dX11_way_12 : decode cX11_way 12 = .ok (.ifCond .lt 15, 3) := by decide +kernel
theorem dX11_way_15 : decode cX11_way 15 = .ok (.iload_n 3, 1) := by decide +kernel
theorem dX11_way_16 : decode cX11_way 16 = .ok (.i2l, 1) := by decide +kernel
theorem dX11_way_17 : decode cX11_way 17 = .ok (.lconst 0, 1) := by decide +kernel
theorem dX11_way_18 : decode cX11_way 18 = .ok (.ldc2_w 213, 3) := by decide +kernel
theorem dX11_way_21 : decode cX11_way 21 = .ok (.invokestatic 60, 3) := by decide +kernel
theorem dX11_way_24 : decode cX11_way 24 = .ok (.ifCond .ne 6, 3) := by decide +kernel
theorem dX11_way_27 : decode cX11_way 27 = .ok (.bipush (-3), 2) := by decide +kernel
theorem dX11_way_29 : decode cX11_way 29 = .ok (.ireturn, 1) := by decide +kernel
theorem dX11_way_30 : decode cX11_way 30 = .ok (.aload_n 0, 1) := by decide +kernel
theorem dX11_way_31 : decode cX11_way 31 = .ok (.aload_n 0, 1) := by decide +kernel
theorem dX11_way_32 : decode cX11_way 32 = .ok (.getfield 156, 3) := by decide +kernel
theorem dX11_way_35 : decode cX11_way 35 = .ok (.invokevirtual 253, 3) := by decide +kernel
theorem dX11_way_38 : decode cX11_way 38 = .ok (.aload_n 0, 1) := by decide +kernel
theorem dX11_way_39 : decode cX11_way 39 = .ok (.iload_n 1, 1) := by decide +kernel
theorem dX11_way_40 : decode cX11_way 40 = .ok (.invokevirtual 256, 3) := by decide +kernel
theorem dX11_way_43 : decode cX11_way 43 = .ok (.istore 4, 2) := by decide +kernel
theorem dX11_way_45 : decode cX11_way 45 = .ok (.iload 4, 2) := by decide +kernel
theorem dX11_way_47 : decode cX11_way 47 = .ok (.iconst (-1), 1) := by decide +kernel
theorem dX11_way_48 : decode cX11_way 48 = .ok (.if_icmp .eq 9, 3) := by decide +kernel
theorem dX11_way_51 : decode cX11_way 51 = .ok (.iload_n 2, 1) := by decide +kernel
theorem dX11_way_52 : decode cX11_way 52 = .ok (.iload 4, 2) := by decide +kernel
theorem dX11_way_54 : decode cX11_way 54 = .ok (.if_icmp .lt 5, 3) := by decide +kernel
theorem dX11_way_57 : decode cX11_way 57 = .ok (.iconst (-1), 1) := by decide +kernel
theorem dX11_way_58 : decode cX11_way 58 = .ok (.ireturn, 1) := by decide +kernel
theorem dX11_way_59 : decode cX11_way 59 = .ok (.aload_n 0, 1) := by decide +kernel
theorem dX11_way_60 : decode cX11_way 60 = .ok (.iload_n 1, 1) := by decide +kernel
theorem dX11_way_61 : decode cX11_way 61 = .ok (.iload 4, 2) := by decide +kernel
theorem dX11_way_63 : decode cX11_way 63 = .ok (.invokevirtual 262, 3) := by decide +kernel
theorem dX11_way_66 : decode cX11_way 66 = .ok (.aload_n 0, 1) := by decide +kernel
theorem dX11_way_67 : decode cX11_way 67 = .ok (.getfield 156, 3) := by decide +kernel
theorem dX11_way_70 : decode cX11_way 70 = .ok (.istore 5, 2) := by decide +kernel
theorem dX11_way_72 : decode cX11_way 72 = .ok (.iconst 0, 1) := by decide +kernel
theorem dX11_way_73 : decode cX11_way 73 = .ok (.istore 6, 2) := by decide +kernel
theorem dX11_way_75 : decode cX11_way 75 = .ok (.iconst 0, 1) := by decide +kernel
theorem dX11_way_76 : decode cX11_way 76 = .ok (.istore 7, 2) := by decide +kernel
theorem dX11_way_78 : decode cX11_way 78 = .ok (.iload 7, 2) := by decide +kernel
theorem dX11_way_80 : decode cX11_way 80 = .ok (.iload_n 2, 1) := by decide +kernel
theorem dX11_way_81 : decode cX11_way 81 = .ok (.if_icmp .gt 39, 3) := by decide +kernel
theorem dX11_way_84 : decode cX11_way 84 = .ok (.iconst 0, 1) := by decide +kernel
theorem dX11_way_85 : decode cX11_way 85 = .ok (.istore 6, 2) := by decide +kernel
theorem dX11_way_87 : decode cX11_way 87 = .ok (.aload_n 0, 1) := by decide +kernel
theorem dX11_way_88 : decode cX11_way 88 = .ok (.iload 5, 2) := by decide +kernel
theorem dX11_way_90 : decode cX11_way 90 = .ok (.iload 6, 2) := by decide +kernel
theorem dX11_way_92 : decode cX11_way 92 = .ok (.invokevirtual 259, 3) := by decide +kernel
theorem dX11_way_95 : decode cX11_way 95 = .ok (.ifCond .ne 9, 3) := by decide +kernel
theorem dX11_way_98 : decode cX11_way 98 = .ok (.iinc 6 1, 3) := by decide +kernel
theorem dX11_way_101 : decode cX11_way 101 = .ok (.goto (-14), 3) := by decide +kernel
theorem dX11_way_104 : decode cX11_way 104 = .ok (.aload_n 0, 1) := by decide +kernel
theorem dX11_way_105 : decode cX11_way 105 = .ok (.iload 5, 2) := by decide +kernel
theorem dX11_way_107 : decode cX11_way 107 = .ok (.iload 6, 2) := by decide +kernel
theorem dX11_way_109 : decode cX11_way 109 = .ok (.invokevirtual 230, 3) := by decide +kernel
theorem dX11_way_112 : decode cX11_way 112 = .ok (.istore 5, 2) := by decide +kernel
theorem dX11_way_114 : decode cX11_way 114 = .ok (.iinc 7 1, 3) := by decide +kernel
theorem dX11_way_117 : decode cX11_way 117 = .ok (.goto (-39), 3) := by decide +kernel
theorem dX11_way_120 : decode cX11_way 120 = .ok (.iload 6, 2) := by decide +kernel
theorem dX11_way_122 : decode cX11_way 122 = .ok (.bipush 7, 2) := by decide +kernel
theorem dX11_way_124 : decode cX11_way 124 = .ok (.irem, 1) := by decide +kernel
theorem dX11_way_125 : decode cX11_way 125 = .ok (.istore 7, 2) := by decide +kernel
theorem dX11_way_127 : decode cX11_way 127 = .ok (.iload 6, 2) := by decide +kernel
theorem dX11_way_129 : decode cX11_way 129 = .ok (.bipush 21, 2) := by decide +kernel
theorem dX11_way_131 : decode cX11_way 131 = .ok (.if_icmp .ne 7, 3) := by decide +kernel
theorem dX11_way_134 : decode cX11_way 134 = .ok (.iconst 4, 1) := by decide +kernel
theorem dX11_way_135 : decode cX11_way 135 = .ok (.goto 35, 3) := by decide +kernel
theorem dX11_way_138 : decode cX11_way 138 = .ok (.iload 7, 2) := by decide +kernel
theorem dX11_way_140 : decode cX11_way 140 = .ok (.iconst 3, 1) := by decide +kernel
theorem dX11_way_141 : decode cX11_way 141 = .ok (.if_icmp .ge 7, 3) := by decide +kernel
theorem dX11_way_144 : decode cX11_way 144 = .ok (.iconst 0, 1) := by decide +kernel
theorem dX11_way_145 : decode cX11_way 145 = .ok (.goto 25, 3) := by decide +kernel
theorem dX11_way_148 : decode cX11_way 148 = .ok (.iload 7, 2) := by decide +kernel
theorem dX11_way_150 : decode cX11_way 150 = .ok (.iconst 3, 1) := by decide +kernel
theorem dX11_way_151 : decode cX11_way 151 = .ok (.if_icmp .ne 7, 3) := by decide +kernel
theorem dX11_way_154 : decode cX11_way 154 = .ok (.iconst 1, 1) := by decide +kernel
theorem dX11_way_155 : decode cX11_way 155 = .ok (.goto 15, 3) := by decide +kernel
theorem dX11_way_158 : decode cX11_way 158 = .ok (.iload 7, 2) := by decide +kernel
theorem dX11_way_160 : decode cX11_way 160 = .ok (.bipush 6, 2) := by decide +kernel
theorem dX11_way_162 : decode cX11_way 162 = .ok (.if_icmp .ge 7, 3) := by decide +kernel
theorem dX11_way_165 : decode cX11_way 165 = .ok (.iconst 2, 1) := by decide +kernel
theorem dX11_way_166 : decode cX11_way 166 = .ok (.goto 4, 3) := by decide +kernel
theorem dX11_way_169 : decode cX11_way 169 = .ok (.iconst 3, 1) := by decide +kernel
theorem dX11_way_170 : decode cX11_way 170 = .ok (.istore 8, 2) := by decide +kernel
theorem dX11_way_172 : decode cX11_way 172 = .ok (.iload_n 3, 1) := by decide +kernel
theorem dX11_way_173 : decode cX11_way 173 = .ok (.ifCond .ne 22, 3) := by decide +kernel
theorem dX11_way_176 : decode cX11_way 176 = .ok (.iload 6, 2) := by decide +kernel
theorem dX11_way_178 : decode cX11_way 178 = .ok (.bipush 21, 2) := by decide +kernel
theorem dX11_way_180 : decode cX11_way 180 = .ok (.if_icmp .ne 7, 3) := by decide +kernel
theorem dX11_way_183 : decode cX11_way 183 = .ok (.iconst (-1), 1) := by decide +kernel
theorem dX11_way_184 : decode cX11_way 184 = .ok (.goto 45, 3) := by decide +kernel
theorem dX11_way_187 : decode cX11_way 187 = .ok (.iload 6, 2) := by decide +kernel
theorem dX11_way_189 : decode cX11_way 189 = .ok (.bipush 7, 2) := by decide +kernel
theorem dX11_way_191 : decode cX11_way 191 = .ok (.idiv, 1) := by decide +kernel
theorem dX11_way_192 : decode cX11_way 192 = .ok (.goto 37, 3) := by decide +kernel
theorem dX11_way_195 : decode cX11_way 195 = .ok (.iload_n 3, 1) := by decide +kernel
theorem dX11_way_196 : decode cX11_way 196 = .ok (.iconst 1, 1) := by decide +kernel
theorem dX11_way_197 : decode cX11_way 197 = .ok (.if_icmp .ne 8, 3) := by decide +kernel
theorem dX11_way_200 : decode cX11_way 200 = .ok (.iload 8, 2) := by decide +kernel
theorem dX11_way_202 : decode cX11_way 202 = .ok (.goto 27, 3) := by decide +kernel
theorem dX11_way_205 : decode cX11_way 205 = .ok (.iload 8, 2) := by decide +kernel
theorem dX11_way_207 : decode cX11_way 207 = .ok (.ifCond .ne 8, 3) := by decide +kernel
theorem dX11_way_210 : decode cX11_way 210 = .ok (.iload 7, 2) := by decide +kernel
theorem dX11_way_212 : decode cX11_way 212 = .ok (.goto 17, 3) := by decide +kernel
theorem dX11_way_215 : decode cX11_way 215 = .ok (.iload 8, 2) := by decide +kernel
theorem dX11_way_217 : decode cX11_way 217 = .ok (.iconst 2, 1) := by decide +kernel
theorem dX11_way_218 : decode cX11_way 218 = .ok (.if_icmp .ne 10, 3) := by decide +kernel
theorem dX11_way_221 : decode cX11_way 221 = .ok (.iload 7, 2) := by decide +kernel
theorem dX11_way_223 : decode cX11_way 223 = .ok (.iconst 4, 1) := by decide +kernel
theorem dX11_way_224 : decode cX11_way 224 = .ok (.isub, 1) := by decide +kernel
theorem dX11_way_225 : decode cX11_way 225 = .ok (.goto 4, 3) := by decide +kernel
theorem dX11_way_228 : decode cX11_way 228 = .ok (.iconst 0, 1) := by decide +kernel
theorem dX11_way_229 : decode cX11_way 229 = .ok (.ireturn, 1) := by decide +kernel
theorem dX11_helpers_0 : decode cX11_helpers 0 = .ok (.aload_n 0, 1) := by decide +kernel
theorem dX11_helpers_1 : decode cX11_helpers 1 = .ok (.iload_n 1, 1) := by decide +kernel
theorem dX11_helpers_2 : decode cX11_helpers 2 = .ok (.invokevirtual 250, 3) := by decide +kernel
theorem dX11_helpers_5 : decode cX11_helpers 5 = .ok (.ifCond .ne 6, 3) := by decide +kernel
theorem dX11_helpers_8 : decode cX11_helpers 8 = .ok (.bipush (-2), 2) := by decide +kernel
theorem dX11_helpers_10 : decode cX11_helpers 10 = .ok (.ireturn, 1) := by decide +kernel
theorem dX11_helpers_11 : decode cX11_helpers 11 = .ok (.iload_n 2, 1) := by decide +kernel
theorem dX11_helpers_12 : decode cX11_helpers 12 = .ok (.i2l, 1) := by decide +kernel
theorem dX11_helpers_13 : decode cX11_helpers 13 = .ok (.lconst 0, 1) := by decide +kernel
theorem dX11_helpers_14 : decode cX11_helpers 14 = .ok (.lconst 1, 1) := by decide +kernel
theorem dX11_helpers_15 : decode cX11_helpers 15 = .ok (.invokestatic 60, 3) := by decide +kernel
theorem dX11_helpers_18 : decode cX11_helpers 18 = .ok (.ifCond .ne 6, 3) := by decide +kernel
theorem dX11_helpers_21 : decode cX11_helpers 21 = .ok (.bipush (-3), 2) := by decide +kernel
theorem dX11_helpers_23 : decode cX11_helpers 23 = .ok (.ireturn, 1) := by decide +kernel
theorem dX11_helpers_24 : decode cX11_helpers 24 = .ok (.iconst (-1), 1) := by decide +kernel
theorem dX11_helpers_25 : decode cX11_helpers 25 = .ok (.istore_n 3, 1) := by decide +kernel
theorem dX11_helpers_26 : decode cX11_helpers 26 = .ok (.iconst 0, 1) := by decide +kernel
theorem dX11_helpers_27 : decode cX11_helpers 27 = .ok (.istore 4, 2) := by decide +kernel
theorem dX11_helpers_29 : decode cX11_helpers 29 = .ok (.iload 4, 2) := by decide +kernel
theorem dX11_helpers_31 : decode cX11_helpers 31 = .ok (.iconst 1, 1) := by decide +kernel
theorem dX11_helpers_32 : decode cX11_helpers 32 = .ok (.aload_n 0, 1) := by decide +kernel
theorem dX11_helpers_33 : decode cX11_helpers 33 = .ok (.getfield 16, 3) := by decide +kernel
theorem dX11_helpers_36 : decode cX11_helpers 36 = .ok (.ishl, 1) := by decide +kernel
theorem dX11_helpers_37 : decode cX11_helpers 37 = .ok (.if_icmp .ge 53, 3) := by decide +kernel
theorem dX11_helpers_40 : decode cX11_helpers 40 = .ok (.iload_n 3, 1) := by decide +kernel
theorem dX11_helpers_41 : decode cX11_helpers 41 = .ok (.iconst (-1), 1) := by decide +kernel
theorem dX11_helpers_42 : decode cX11_helpers 42 = .ok (.if_icmp .eq 15, 3) := by decide +kernel
theorem dX11_helpers_45 : decode cX11_helpers 45 = .ok (.iload 4, 2) := by decide +kernel
theorem dX11_helpers_47 : decode cX11_helpers 47 = .ok (.invokestatic 265, 3) := by decide +kernel
theorem dX11_helpers_50 : decode cX11_helpers 50 = .ok (.iload_n 3, 1) := by decide +kernel
theorem dX11_helpers_51 : decode cX11_helpers 51 = .ok (.invokestatic 265, 3) := by decide +kernel
theorem dX11_helpers_54 : decode cX11_helpers 54 = .ok (.if_icmp .ge 30, 3) := by decide +kernel
theorem dX11_helpers_57 : decode cX11_helpers 57 = .ok (.aload_n 0, 1) := by decide +kernel
theorem dX11_helpers_58 : decode cX11_helpers 58 = .ok (.aload_n 0, 1) := by decide +kernel
theorem dX11_helpers_59 : decode cX11_helpers 59 = .ok (.getfield 156, 3) := by decide +kernel
theorem dX11_helpers_62 : decode cX11_helpers 62 = .ok (.iload 4, 2) := by decide +kernel
theorem dX11_helpers_64 : decode cX11_helpers 64 = .ok (.iconst 0, 1) := by decide +kernel
theorem dX11_helpers_65 : decode cX11_helpers 65 = .ok (.invokevirtual 246, 3) := by decide +kernel
theorem dX11_helpers_68 : decode cX11_helpers 68 = .ok (.aload_n 0, 1) := by decide +kernel
theorem dX11_helpers_69 : decode cX11_helpers 69 = .ok (.iload_n 1, 1) := by decide +kernel
theorem dX11_helpers_70 : decode cX11_helpers 70 = .ok (.invokevirtual 256, 3) := by decide +kernel
theorem dX11_helpers_73 : decode cX11_helpers 73 = .ok (.iconst (-1), 1) := by decide +kernel
theorem dX11_helpers_74 : decode cX11_helpers 74 = .ok (.if_icmp .ne 7, 3) := by decide +kernel
theorem dX11_helpers_77 : decode cX11_helpers 77 = .ok (.iload_n 3, 1) := by decide +kernel
theorem dX11_helpers_78 : decode cX11_helpers 78 = .ok (.goto 5, 3) := by decide +kernel
theorem dX11_helpers_81 : decode cX11_helpers 81 = .ok (.iload 4, 2) := by decide +kernel
theorem dX11_helpers_83 : decode cX11_helpers 83 = .ok (.istore_n 3, 1) := by decide +kernel
theorem dX11_helpers_84 : decode cX11_helpers 84 = .ok (.iinc 4 1, 3) := by decide +kernel
theorem dX11_helpers_87 : decode cX11_helpers 87 = .ok (.goto (-58), 3) := by decide +kernel
theorem dX11_helpers_90 : decode cX11_helpers 90 = .ok (.iload_n 3, 1) := by decide +kernel
theorem dX11_helpers_91 : decode cX11_helpers 91 = .ok (.iconst (-1), 1) := by decide +kernel
theorem dX11_helpers_92 : decode cX11_helpers 92 = .ok (.if_icmp .ne 7, 3) := by decide +kernel
theorem dX11_helpers_95 : decode cX11_helpers 95 = .ok (.iconst (-1), 1) := by decide +kernel
theorem dX11_helpers_96 : decode cX11_helpers 96 = .ok (.goto 15, 3) := by decide +kernel
theorem dX11_helpers_99 : decode cX11_helpers 99 = .ok (.iload_n 2, 1) := by decide +kernel
theorem dX11_helpers_100 : decode cX11_helpers 100 = .ok (.ifCond .ne 10, 3) := by decide +kernel
theorem dX11_helpers_103 : decode cX11_helpers 103 = .ok (.iload_n 3, 1) := by decide +kernel
theorem dX11_helpers_104 : decode cX11_helpers 104 = .ok (.invokestatic 265, 3) := by decide +kernel
theorem dX11_helpers_107 : decode cX11_helpers 107 = .ok (.goto 4, 3) := by decide +kernel
theorem dX11_helpers_110 : decode cX11_helpers 110 = .ok (.iload_n 3, 1) := by decide +kernel
theorem dX11_helpers_111 : decode cX11_helpers 111 = .ok (.ireturn, 1) := by decide +kernel
theorem dX11_nights_0 : decode cX11_nights 0 = .ok (.aload_n 0, 1) := by decide +kernel
theorem dX11_nights_1 : decode cX11_nights 1 = .ok (.iload_n 1, 1) := by decide +kernel
theorem dX11_nights_2 : decode cX11_nights 2 = .ok (.invokevirtual 250, 3) := by decide +kernel
theorem dX11_nights_5 : decode cX11_nights 5 = .ok (.ifCond .ne 6, 3) := by decide +kernel
theorem dX11_nights_8 : decode cX11_nights 8 = .ok (.bipush (-2), 2) := by decide +kernel
theorem dX11_nights_10 : decode cX11_nights 10 = .ok (.ireturn, 1) := by decide +kernel
theorem dX11_nights_11 : decode cX11_nights 11 = .ok (.aload_n 0, 1) := by decide +kernel
theorem dX11_nights_12 : decode cX11_nights 12 = .ok (.invokevirtual 236, 3) := by decide +kernel
theorem dX11_nights_15 : decode cX11_nights 15 = .ok (.aload_n 0, 1) := by decide +kernel
theorem dX11_nights_16 : decode cX11_nights 16 = .ok (.aload_n 0, 1) := by decide +kernel
theorem dX11_nights_17 : decode cX11_nights 17 = .ok (.getfield 156, 3) := by decide +kernel
theorem dX11_nights_20 : decode cX11_nights 20 = .ok (.iconst 0, 1) := by decide +kernel
theorem dX11_nights_21 : decode cX11_nights 21 = .ok (.invokevirtual 239, 3) := by decide +kernel
theorem dX11_nights_24 : decode cX11_nights 24 = .ok (.iconst 0, 1) := by decide +kernel
theorem dX11_nights_25 : decode cX11_nights 25 = .ok (.istore_n 2, 1) := by decide +kernel
theorem dX11_nights_26 : decode cX11_nights 26 = .ok (.iconst 0, 1) := by decide +kernel
theorem dX11_nights_27 : decode cX11_nights 27 = .ok (.istore_n 3, 1) := by decide +kernel
theorem dX11_nights_28 : decode cX11_nights 28 = .ok (.iconst 1, 1) := by decide +kernel
theorem dX11_nights_29 : decode cX11_nights 29 = .ok (.istore 4, 2) := by decide +kernel
theorem dX11_nights_31 : decode cX11_nights 31 = .ok (.iload 4, 2) := by decide +kernel
theorem dX11_nights_33 : decode cX11_nights 33 = .ok (.ifCond .eq 157, 3) := by decide +kernel
theorem dX11_nights_36 : decode cX11_nights 36 = .ok (.aload_n 0, 1) := by decide +kernel
theorem dX11_nights_37 : decode cX11_nights 37 = .ok (.iconst 0, 1) := by decide +kernel
theorem dX11_nights_38 : decode cX11_nights 38 = .ok (.putfield 268, 3) := by decide +kernel
theorem dX11_nights_41 : decode cX11_nights 41 = .ok (.iload_n 3, 1) := by decide +kernel
theorem dX11_nights_42 : decode cX11_nights 42 = .ok (.aload_n 0, 1) := by decide +kernel
theorem dX11_nights_43 : decode cX11_nights 43 = .ok (.getfield 233, 3) := by decide +kernel
theorem dX11_nights_46 : decode cX11_nights 46 = .ok (.if_icmp .ge 93, 3) := by decide +kernel
theorem dX11_nights_49 : decode cX11_nights 49 = .ok (.aload_n 0, 1) := by decide +kernel
theorem dX11_nights_50 : decode cX11_nights 50 = .ok (.getfield 40, 3) := by decide +kernel
theorem dX11_nights_53 : decode cX11_nights 53 = .ok (.iload_n 3, 1) := by decide +kernel
theorem dX11_nights_54 : decode cX11_nights 54 = .ok (.iaload, 1) := by decide +kernel
theorem dX11_nights_55 : decode cX11_nights 55 = .ok (.istore 5, 2) := by decide +kernel
theorem dX11_nights_57 : decode cX11_nights 57 = .ok (.iload 5, 2) := by decide +kernel
theorem dX11_nights_59 : decode cX11_nights 59 = .ok (.iload_n 1, 1) := by decide +kernel
theorem dX11_nights_60 : decode cX11_nights 60 = .ok (.iand, 1) := by decide +kernel
theorem dX11_nights_61 : decode cX11_nights 61 = .ok (.ifCond .ne 5, 3) := by decide +kernel
theorem dX11_nights_64 : decode cX11_nights 64 = .ok (.iload_n 2, 1) := by decide +kernel
theorem dX11_nights_65 : decode cX11_nights 65 = .ok (.ireturn, 1) := by decide +kernel
theorem dX11_nights_66 : decode cX11_nights 66 = .ok (.iconst 0, 1) := by decide +kernel
theorem dX11_nights_67 : decode cX11_nights 67 = .ok (.istore 6, 2) := by decide +kernel
theorem dX11_nights_69 : decode cX11_nights 69 = .ok (.iload 6, 2) := by decide +kernel
theorem dX11_nights_71 : decode cX11_nights 71 = .ok (.bipush 21, 2) := by decide +kernel
theorem dX11_nights_73 : decode cX11_nights 73 = .ok (.if_icmp .ge 33, 3) := by decide +kernel
theorem dX11_nights_76 : decode cX11_nights 76 = .ok (.aload_n 0, 1) := by decide +kernel
theorem dX11_nights_77 : decode cX11_nights 77 = .ok (.iload 5, 2) := by decide +kernel
theorem dX11_nights_79 : decode cX11_nights 79 = .ok (.iload 6, 2) := by decide +kernel
theorem dX11_nights_81 : decode cX11_nights 81 = .ok (.invokevirtual 227, 3) := by decide +kernel
theorem dX11_nights_84 : decode cX11_nights 84 = .ok (.ifCond .eq 16, 3) := by decide +kernel
theorem dX11_nights_87 : decode cX11_nights 87 = .ok (.aload_n 0, 1) := by decide +kernel
theorem dX11_nights_88 : decode cX11_nights 88 = .ok (.aload_n 0, 1) := by decide +kernel
theorem dX11_nights_89 : decode cX11_nights 89 = .ok (.iload 5, 2) := by decide +kernel
theorem dX11_nights_91 : decode cX11_nights 91 = .ok (.iload 6, 2) := by decide +kernel
theorem dX11_nights_93 : decode cX11_nights 93 = .ok (.invokevirtual 230, 3) := by decide +kernel
theorem dX11_nights_96 : decode cX11_nights 96 = .ok (.iload_n 2, 1) := by decide +kernel
theorem dX11_nights_97 : decode cX11_nights 97 = .ok (.invokevirtual 239, 3) := by decide +kernel
theorem dX11_nights_100 : decode cX11_nights 100 = .ok (.iinc 6 1, 3) := by decide +kernel
theorem dX11_nights_103 : decode cX11_nights 103 = .ok (.goto (-34), 3) := by decide +kernel
theorem dX11_nights_106 : decode cX11_nights 106 = .ok (.aload_n 0, 1) := by decide +kernel
theorem dX11_nights_107 : decode cX11_nights 107 = .ok (.getfield 43, 3) := by decide +kernel
theorem dX11_nights_110 : decode cX11_nights 110 = .ok (.aload_n 0, 1) := by decide +kernel
theorem dX11_nights_111 : decode cX11_nights 111 = .ok (.getfield 268, 3) := by decide +kernel
theorem dX11_nights_114 : decode cX11_nights 114 = .ok (.aload_n 0, 1) := by decide +kernel
theorem dX11_nights_115 : decode cX11_nights 115 = .ok (.iload 5, 2) := by decide +kernel
theorem dX11_nights_117 : decode cX11_nights 117 = .ok (.bipush 21, 2) := by decide +kernel
theorem dX11_nights_119 : decode cX11_nights 119 = .ok (.invokevirtual 230, 3) := by decide +kernel
theorem dX11_nights_122 : decode cX11_nights 122 = .ok (.iastore, 1) := by decide +kernel
theorem dX11_nights_123 : decode cX11_nights 123 = .ok (.aload_n 0, 1) := by decide +kernel
theorem dX11_nights_124 : decode cX11_nights 124 = .ok (.dup, 1) := by decide +kernel
theorem dX11_nights_125 : decode cX11_nights 125 = .ok (.getfield 268, 3) := by decide +kernel
theorem dX11_nights_128 : decode cX11_nights 128 = .ok (.iconst 1, 1) := by decide +kernel
theorem dX11_nights_129 : decode cX11_nights 129 = .ok (.iadd, 1) := by decide +kernel
theorem dX11_nights_130 : decode cX11_nights 130 = .ok (.putfield 268, 3) := by decide +kernel
theorem dX11_nights_133 : decode cX11_nights 133 = .ok (.iinc 3 1, 3) := by decide +kernel
theorem dX11_nights_136 : decode cX11_nights 136 = .ok (.goto (-95), 3) := by decide +kernel
theorem dX11_nights_139 : decode cX11_nights 139 = .ok (.iinc 2 1, 3) := by decide +kernel
theorem dX11_nights_142 : decode cX11_nights 142 = .ok (.iconst 0, 1) := by decide +kernel
theorem dX11_nights_143 : decode cX11_nights 143 = .ok (.istore 5, 2) := by decide +kernel
theorem dX11_nights_145 : decode cX11_nights 145 = .ok (.iload 5, 2) := by decide +kernel
theorem dX11_nights_147 : decode cX11_nights 147 = .ok (.aload_n 0, 1) := by decide +kernel
theorem dX11_nights_148 : decode cX11_nights 148 = .ok (.getfield 268, 3) := by decide +kernel
theorem dX11_nights_151 : decode cX11_nights 151 = .ok (.if_icmp .ge 21, 3) := by decide +kernel
theorem dX11_nights_154 : decode cX11_nights 154 = .ok (.aload_n 0, 1) := by decide +kernel
theorem dX11_nights_155 : decode cX11_nights 155 = .ok (.aload_n 0, 1) := by decide +kernel
theorem dX11_nights_156 : decode cX11_nights 156 = .ok (.getfield 43, 3) := by decide +kernel
theorem dX11_nights_159 : decode cX11_nights 159 = .ok (.iload 5, 2) := by decide +kernel
theorem dX11_nights_161 : decode cX11_nights 161 = .ok (.iaload, 1) := by decide +kernel
theorem dX11_nights_162 : decode cX11_nights 162 = .ok (.iload_n 2, 1) := by decide +kernel
theorem dX11_nights_163 : decode cX11_nights 163 = .ok (.invokevirtual 239, 3) := by decide +kernel
theorem dX11_nights_166 : decode cX11_nights 166 = .ok (.iinc 5 1, 3) := by decide +kernel
theorem dX11_nights_169 : decode cX11_nights 169 = .ok (.goto (-24), 3) := by decide +kernel
theorem dX11_nights_172 : decode cX11_nights 172 = .ok (.iload_n 3, 1) := by decide +kernel
theorem dX11_nights_173 : decode cX11_nights 173 = .ok (.aload_n 0, 1) := by decide +kernel
theorem dX11_nights_174 : decode cX11_nights 174 = .ok (.getfield 233, 3) := by decide +kernel
theorem dX11_nights_177 : decode cX11_nights 177 = .ok (.if_icmp .ge 7, 3) := by decide +kernel
theorem dX11_nights_180 : decode cX11_nights 180 = .ok (.iconst 1, 1) := by decide +kernel
theorem dX11_nights_181 : decode cX11_nights 181 = .ok (.goto 4, 3) := by decide +kernel
theorem dX11_nights_184 : decode cX11_nights 184 = .ok (.iconst 0, 1) := by decide +kernel
theorem dX11_nights_185 : decode cX11_nights 185 = .ok (.istore 4, 2) := by decide +kernel
theorem dX11_nights_187 : decode cX11_nights 187 = .ok (.goto (-156), 3) := by decide +kernel
theorem dX11_nights_190 : decode cX11_nights 190 = .ok (.iconst (-1), 1) := by decide +kernel
theorem dX11_nights_191 : decode cX11_nights 191 = .ok (.ireturn, 1) := by decide +kernel
theorem dX11_everHeld_0 : decode cX11_everHeld 0 = .ok (.iconst 1, 1) := by decide +kernel
theorem dX11_everHeld_1 : decode cX11_everHeld 1 = .ok (.aload_n 0, 1) := by decide +kernel
theorem dX11_everHeld_2 : decode cX11_everHeld 2 = .ok (.getfield 136, 3) := by decide +kernel
theorem dX11_everHeld_5 : decode cX11_everHeld 5 = .ok (.ishl, 1) := by decide +kernel
theorem dX11_everHeld_6 : decode cX11_everHeld 6 = .ok (.iconst 1, 1) := by decide +kernel
theorem dX11_everHeld_7 : decode cX11_everHeld 7 = .ok (.isub, 1) := by decide +kernel
theorem dX11_everHeld_8 : decode cX11_everHeld 8 = .ok (.istore_n 1, 1) := by decide +kernel
theorem dX11_everHeld_9 : decode cX11_everHeld 9 = .ok (.iconst 0, 1) := by decide +kernel
theorem dX11_everHeld_10 : decode cX11_everHeld 10 = .ok (.istore_n 2, 1) := by decide +kernel
theorem dX11_everHeld_11 : decode cX11_everHeld 11 = .ok (.iload_n 2, 1) := by decide +kernel
theorem dX11_everHeld_12 : decode cX11_everHeld 12 = .ok (.aload_n 0, 1) := by decide +kernel
theorem dX11_everHeld_13 : decode cX11_everHeld 13 = .ok (.getfield 233, 3) := by decide +kernel
theorem dX11_everHeld_16 : decode cX11_everHeld 16 = .ok (.if_icmp .ge 18, 3) := by decide +kernel
theorem dX11_everHeld_19 : decode cX11_everHeld 19 = .ok (.iload_n 1, 1) := by decide +kernel
theorem dX11_everHeld_20 : decode cX11_everHeld 20 = .ok (.aload_n 0, 1) := by decide +kernel
theorem dX11_everHeld_21 : decode cX11_everHeld 21 = .ok (.getfield 40, 3) := by decide +kernel
theorem dX11_everHeld_24 : decode cX11_everHeld 24 = .ok (.iload_n 2, 1) := by decide +kernel
theorem dX11_everHeld_25 : decode cX11_everHeld 25 = .ok (.iaload, 1) := by decide +kernel
theorem dX11_everHeld_26 : decode cX11_everHeld 26 = .ok (.iand, 1) := by decide +kernel
theorem dX11_everHeld_27 : decode cX11_everHeld 27 = .ok (.istore_n 1, 1) := by decide +kernel
theorem dX11_everHeld_28 : decode cX11_everHeld 28 = .ok (.iinc 2 1, 3) := by decide +kernel
theorem dX11_everHeld_31 : decode cX11_everHeld 31 = .ok (.goto (-20), 3) := by decide +kernel
theorem dX11_everHeld_34 : decode cX11_everHeld 34 = .ok (.iload_n 1, 1) := by decide +kernel
theorem dX11_everHeld_35 : decode cX11_everHeld 35 = .ok (.ireturn, 1) := by decide +kernel
theorem dX11_neverOf_0 : decode cX11_neverOf 0 = .ok (.aload_n 0, 1) := by decide +kernel
theorem dX11_neverOf_1 : decode cX11_neverOf 1 = .ok (.aload_n 0, 1) := by decide +kernel
theorem dX11_neverOf_2 : decode cX11_neverOf 2 = .ok (.getfield 156, 3) := by decide +kernel
theorem dX11_neverOf_5 : decode cX11_neverOf 5 = .ok (.invokevirtual 253, 3) := by decide +kernel
theorem dX11_neverOf_8 : decode cX11_neverOf 8 = .ok (.aload_n 0, 1) := by decide +kernel
theorem dX11_neverOf_9 : decode cX11_neverOf 9 = .ok (.invokevirtual 271, 3) := by decide +kernel
theorem dX11_neverOf_12 : decode cX11_neverOf 12 = .ok (.ireturn, 1) := by decide +kernel
theorem dX11_never_0 : decode cX11_never 0 = .ok (.aload_n 0, 1) := by decide +kernel
theorem dX11_never_1 : decode cX11_never 1 = .ok (.invokevirtual 274, 3) := by decide +kernel
theorem dX11_never_4 : decode cX11_never 4 = .ok (.ireturn, 1) := by decide +kernel
theorem dX11_ahead_0 : decode cX11_ahead 0 = .ok (.aload_n 0, 1) := by decide +kernel
theorem dX11_ahead_1 : decode cX11_ahead 1 = .ok (.iload_n 1, 1) := by decide +kernel
theorem dX11_ahead_2 : decode cX11_ahead 2 = .ok (.invokevirtual 215, 3) := by decide +kernel
theorem dX11_ahead_5 : decode cX11_ahead 5 = .ok (.ifCond .ne 6, 3) := by decide +kernel
theorem dX11_ahead_8 : decode cX11_ahead 8 = .ok (.bipush (-2), 2) := by decide +kernel
theorem dX11_ahead_10 : decode cX11_ahead 10 = .ok (.ireturn, 1) := by decide +kernel
theorem dX11_ahead_11 : decode cX11_ahead 11 = .ok (.aload_n 0, 1) := by decide +kernel
theorem dX11_ahead_12 : decode cX11_ahead 12 = .ok (.getfield 156, 3) := by decide +kernel
theorem dX11_ahead_15 : decode cX11_ahead 15 = .ok (.iload_n 1, 1) := by decide +kernel
theorem dX11_ahead_16 : decode cX11_ahead 16 = .ok (.invokestatic 174, 3) := by decide +kernel
theorem dX11_ahead_19 : decode cX11_ahead 19 = .ok (.ifCond .eq 14, 3) := by decide +kernel
theorem dX11_ahead_22 : decode cX11_ahead 22 = .ok (.aload_n 0, 1) := by decide +kernel
theorem dX11_ahead_23 : decode cX11_ahead 23 = .ok (.invokevirtual 274, 3) := by decide +kernel
theorem dX11_ahead_26 : decode cX11_ahead 26 = .ok (.iload_n 1, 1) := by decide +kernel
theorem dX11_ahead_27 : decode cX11_ahead 27 = .ok (.invokestatic 174, 3) := by decide +kernel
theorem dX11_ahead_30 : decode cX11_ahead 30 = .ok (.ifCond .eq 6, 3) := by decide +kernel
theorem dX11_ahead_33 : decode cX11_ahead 33 = .ok (.bipush (-4), 2) := by decide +kernel
theorem dX11_ahead_35 : decode cX11_ahead 35 = .ok (.ireturn, 1) := by decide +kernel
theorem dX11_ahead_36 : decode cX11_ahead 36 = .ok (.iconst 0, 1) := by decide +kernel
theorem dX11_ahead_37 : decode cX11_ahead 37 = .ok (.istore_n 2, 1) := by decide +kernel
theorem dX11_ahead_38 : decode cX11_ahead 38 = .ok (.iconst 0, 1) := by decide +kernel
theorem dX11_ahead_39 : decode cX11_ahead 39 = .ok (.istore_n 3, 1) := by decide +kernel
theorem dX11_ahead_40 : decode cX11_ahead 40 = .ok (.iload_n 3, 1) := by decide +kernel
theorem dX11_ahead_41 : decode cX11_ahead 41 = .ok (.aload_n 0, 1) := by decide +kernel
theorem dX11_ahead_42 : decode cX11_ahead 42 = .ok (.getfield 136, 3) := by decide +kernel
theorem dX11_ahead_45 : decode cX11_ahead 45 = .ok (.if_icmp .ge 59, 3) := by decide +kernel
theorem dX11_ahead_48 : decode cX11_ahead 48 = .ok (.iload_n 3, 1) := by decide +kernel
theorem dX11_ahead_49 : decode cX11_ahead 49 = .ok (.iload_n 1, 1) := by decide +kernel
theorem dX11_ahead_50 : decode cX11_ahead 50 = .ok (.if_icmp .eq 48, 3) := by decide +kernel
theorem dX11_ahead_53 : decode cX11_ahead 53 = .ok (.aload_n 0, 1) := by decide +kernel
theorem dX11_ahead_54 : decode cX11_ahead 54 = .ok (.getfield 156, 3) := by decide +kernel
theorem dX11_ahead_57 : decode cX11_ahead 57 = .ok (.iload_n 3, 1) := by decide +kernel
theorem dX11_ahead_58 : decode cX11_ahead 58 = .ok (.invokestatic 174, 3) := by decide +kernel
theorem dX11_ahead_61 : decode cX11_ahead 61 = .ok (.ifCond .eq 37, 3) := by decide +kernel
theorem dX11_ahead_64 : decode cX11_ahead 64 = .ok (.aload_n 0, 1) := by decide +kernel
theorem dX11_ahead_65 : decode cX11_ahead 65 = .ok (.aload_n 0, 1) := by decide +kernel
theorem dX11_ahead_66 : decode cX11_ahead 66 = .ok (.getfield 156, 3) := by decide +kernel
theorem dX11_ahead_69 : decode cX11_ahead 69 = .ok (.bipush 7, 2) := by decide +kernel
theorem dX11_ahead_71 : decode cX11_ahead 71 = .ok (.iconst 1, 1) := by decide +kernel
theorem dX11_ahead_72 : decode cX11_ahead 72 = .ok (.iload_n 3, 1) := by decide +kernel
theorem dX11_ahead_73 : decode cX11_ahead 73 = .ok (.ishl, 1) := by decide +kernel
theorem dX11_ahead_74 : decode cX11_ahead 74 = .ok (.invokevirtual 246, 3) := by decide +kernel
theorem dX11_ahead_77 : decode cX11_ahead 77 = .ok (.iload_n 2, 1) := by decide +kernel
theorem dX11_ahead_78 : decode cX11_ahead 78 = .ok (.aload_n 0, 1) := by decide +kernel
theorem dX11_ahead_79 : decode cX11_ahead 79 = .ok (.invokevirtual 271, 3) := by decide +kernel
theorem dX11_ahead_82 : decode cX11_ahead 82 = .ok (.iload_n 1, 1) := by decide +kernel
theorem dX11_ahead_83 : decode cX11_ahead 83 = .ok (.invokestatic 174, 3) := by decide +kernel
theorem dX11_ahead_86 : decode cX11_ahead 86 = .ok (.ifCond .eq 9, 3) := by decide +kernel
theorem dX11_ahead_89 : decode cX11_ahead 89 = .ok (.iconst 1, 1) := by decide +kernel
theorem dX11_ahead_90 : decode cX11_ahead 90 = .ok (.iload_n 3, 1) := by decide +kernel
theorem dX11_ahead_91 : decode cX11_ahead 91 = .ok (.ishl, 1) := by decide +kernel
theorem dX11_ahead_92 : decode cX11_ahead 92 = .ok (.goto 4, 3) := by decide +kernel
theorem dX11_ahead_95 : decode cX11_ahead 95 = .ok (.iconst 0, 1) := by decide +kernel
theorem dX11_ahead_96 : decode cX11_ahead 96 = .ok (.ior, 1) := by decide +kernel
theorem dX11_ahead_97 : decode cX11_ahead 97 = .ok (.istore_n 2, 1) := by decide +kernel
theorem dX11_ahead_98 : decode cX11_ahead 98 = .ok (.iinc 3 1, 3) := by decide +kernel
theorem dX11_ahead_101 : decode cX11_ahead 101 = .ok (.goto (-61), 3) := by decide +kernel
theorem dX11_ahead_104 : decode cX11_ahead 104 = .ok (.iload_n 2, 1) := by decide +kernel
theorem dX11_ahead_105 : decode cX11_ahead 105 = .ok (.ireturn, 1) := by decide +kernel
theorem dX11_props_0 : decode cX11_props 0 = .ok (.aload_n 0, 1) := by decide +kernel
theorem dX11_props_1 : decode cX11_props 1 = .ok (.invokevirtual 274, 3) := by decide +kernel
theorem dX11_props_4 : decode cX11_props 4 = .ok (.istore_n 1, 1) := by decide +kernel
theorem dX11_props_5 : decode cX11_props 5 = .ok (.iconst 0, 1) := by decide +kernel
theorem dX11_props_6 : decode cX11_props 6 = .ok (.istore_n 2, 1) := by decide +kernel
theorem dX11_props_7 : decode cX11_props 7 = .ok (.iconst 0, 1) := by decide +kernel
theorem dX11_props_8 : decode cX11_props 8 = .ok (.istore_n 3, 1) := by decide +kernel
theorem dX11_props_9 : decode cX11_props 9 = .ok (.iload_n 3, 1) := by decide +kernel
theorem dX11_props_10 : decode cX11_props 10 = .ok (.aload_n 0, 1) := by decide +kernel
theorem dX11_props_11 : decode cX11_props 11 = .ok (.getfield 136, 3) := by decide +kernel
theorem dX11_props_14 : decode cX11_props 14 = .ok (.if_icmp .ge 148, 3) := by decide +kernel
theorem dX11_props_17 : decode cX11_props 17 = .ok (.iconst 0, 1) := by decide +kernel
theorem dX11_props_18 : decode cX11_props 18 = .ok (.istore 4, 2) := by decide +kernel
theorem dX11_props_20 : decode cX11_props 20 = .ok (.iconst 0, 1) := by decide +kernel
theorem dX11_props_21 : decode cX11_props 21 = .ok (.istore 5, 2) := by decide +kernel
theorem dX11_props_23 : decode cX11_props 23 = .ok (.iconst 0, 1) := by decide +kernel
theorem dX11_props_24 : decode cX11_props 24 = .ok (.istore 6, 2) := by decide +kernel
theorem dX11_props_26 : decode cX11_props 26 = .ok (.iload 6, 2) := by decide +kernel
theorem dX11_props_28 : decode cX11_props 28 = .ok (.aload_n 0, 1) := by decide +kernel
theorem dX11_props_29 : decode cX11_props 29 = .ok (.getfield 20, 3) := by decide +kernel
theorem dX11_props_32 : decode cX11_props 32 = .ok (.bipush 10, 2) := by decide +kernel
theorem dX11_props_34 : decode cX11_props 34 = .ok (.iload_n 3, 1) := by decide +kernel
theorem dX11_props_35 : decode cX11_props 35 = .ok (.imul, 1) := by decide +kernel
theorem dX11_props_36 : decode cX11_props 36 = .ok (.iconst 2, 1) := by decide +kernel
theorem dX11_props_37 : decode cX11_props 37 = .ok (.iadd, 1) := by decide +kernel
theorem dX11_props_38 : decode cX11_props 38 = .ok (.iaload, 1) := by decide +kernel
theorem dX11_props_39 : decode cX11_props 39 = .ok (.if_icmp .ge 88, 3) := by decide +kernel
theorem dX11_props_42 : decode cX11_props 42 = .ok (.aload_n 0, 1) := by decide +kernel
theorem dX11_props_43 : decode cX11_props 43 = .ok (.aload_n 0, 1) := by decide +kernel
theorem dX11_props_44 : decode cX11_props 44 = .ok (.getfield 156, 3) := by decide +kernel
theorem dX11_props_47 : decode cX11_props 47 = .ok (.iload_n 3, 1) := by decide +kernel
theorem dX11_props_48 : decode cX11_props 48 = .ok (.iload 6, 2) := by decide +kernel
theorem dX11_props_50 : decode cX11_props 50 = .ok (.bipush 21, 2) := by decide +kernel
theorem dX11_props_52 : decode cX11_props 52 = .ok (.invokevirtual 189, 3) := by decide +kernel
theorem dX11_props_55 : decode cX11_props 55 = .ok (.ifCond .ne 66, 3) := by decide +kernel
theorem dX11_props_58 : decode cX11_props 58 = .ok (.aload_n 0, 1) := by decide +kernel
theorem dX11_props_59 : decode cX11_props 59 = .ok (.getfield 20, 3) := by decide +kernel
theorem dX11_props_62 : decode cX11_props 62 = .ok (.bipush 10, 2) := by decide +kernel
theorem dX11_props_64 : decode cX11_props 64 = .ok (.iload_n 3, 1) := by decide +kernel
theorem dX11_props_65 : decode cX11_props 65 = .ok (.imul, 1) := by decide +kernel
theorem dX11_props_66 : decode cX11_props 66 = .ok (.iconst 4, 1) := by decide +kernel
theorem dX11_props_67 : decode cX11_props 67 = .ok (.iadd, 1) := by decide +kernel
theorem dX11_props_68 : decode cX11_props 68 = .ok (.iconst 2, 1) := by decide +kernel
theorem dX11_props_69 : decode cX11_props 69 = .ok (.iload 6, 2) := by decide +kernel
theorem dX11_props_71 : decode cX11_props 71 = .ok (.imul, 1) := by decide +kernel
theorem dX11_props_72 : decode cX11_props 72 = .ok (.iadd, 1) := by decide +kernel
theorem dX11_props_73 : decode cX11_props 73 = .ok (.iaload, 1) := by decide +kernel
theorem dX11_props_74 : decode cX11_props 74 = .ok (.istore 7, 2) := by decide +kernel
theorem dX11_props_76 : decode cX11_props 76 = .ok (.iinc 4 1, 3) := by decide +kernel
theorem dX11_props_79 : decode cX11_props 79 = .ok (.aload_n 0, 1) := by decide +kernel
theorem dX11_props_80 : decode cX11_props 80 = .ok (.getfield 20, 3) := by decide +kernel
theorem dX11_props_83 : decode cX11_props 83 = .ok (.bipush 10, 2) := by decide +kernel
theorem dX11_props_85 : decode cX11_props 85 = .ok (.iload_n 3, 1) := by decide +kernel
theorem dX11_props_86 : decode cX11_props 86 = .ok (.imul, 1) := by decide +kernel
theorem dX11_props_87 : decode cX11_props 87 = .ok (.iconst 3, 1) := by decide +kernel
theorem dX11_props_88 : decode cX11_props 88 = .ok (.iadd, 1) := by decide +kernel
theorem dX11_props_89 : decode cX11_props 89 = .ok (.iconst 2, 1) := by decide +kernel
theorem dX11_props_90 : decode cX11_props 90 = .ok (.iload 6, 2) := by decide +kernel
theorem dX11_props_92 : decode cX11_props 92 = .ok (.imul, 1) := by decide +kernel
theorem dX11_props_93 : decode cX11_props 93 = .ok (.iadd, 1) := by decide +kernel
theorem dX11_props_94 : decode cX11_props 94 = .ok (.iaload, 1) := by decide +kernel
theorem dX11_props_95 : decode cX11_props 95 = .ok (.iconst 4, 1) := by decide +kernel
theorem dX11_props_96 : decode cX11_props 96 = .ok (.if_icmp .ne 22, 3) := by decide +kernel
theorem dX11_props_99 : decode cX11_props 99 = .ok (.iload 7, 2) := by decide +kernel
theorem dX11_props_101 : decode cX11_props 101 = .ok (.iload_n 3, 1) := by decide +kernel
theorem dX11_props_102 : decode cX11_props 102 = .ok (.if_icmp .eq 16, 3) := by decide +kernel
theorem dX11_props_105 : decode cX11_props 105 = .ok (.iload_n 1, 1) := by decide +kernel
theorem dX11_props_106 : decode cX11_props 106 = .ok (.iload 7, 2) := by decide +kernel
theorem dX11_props_108 : decode cX11_props 108 = .ok (.invokestatic 174, 3) := by decide +kernel
theorem dX11_props_111 : decode cX11_props 111 = .ok (.ifCond .eq 7, 3) := by decide +kernel
theorem dX11_props_114 : decode cX11_props 114 = .ok (.iconst 1, 1) := by decide +kernel
theorem dX11_props_115 : decode cX11_props 115 = .ok (.goto 4, 3) := by decide +kernel
theorem dX11_props_118 : decode cX11_props 118 = .ok (.iconst 0, 1) := by decide +kernel
theorem dX11_props_119 : decode cX11_props 119 = .ok (.istore 5, 2) := by decide +kernel
theorem dX11_props_121 : decode cX11_props 121 = .ok (.iinc 6 1, 3) := by decide +kernel
theorem dX11_props_124 : decode cX11_props 124 = .ok (.goto (-98), 3) := by decide +kernel
theorem dX11_props_127 : decode cX11_props 127 = .ok (.iload_n 2, 1) := by decide +kernel
theorem dX11_props_128 : decode cX11_props 128 = .ok (.iload_n 1, 1) := by decide +kernel
theorem dX11_props_129 : decode cX11_props 129 = .ok (.iload_n 3, 1) := by decide +kernel
theorem dX11_props_130 : decode cX11_props 130 = .ok (.invokestatic 174, 3) := by decide +kernel
theorem dX11_props_133 : decode cX11_props 133 = .ok (.ifCond .eq 20, 3) := by decide +kernel
theorem dX11_props_136 : decode cX11_props 136 = .ok (.iload 4, 2) := by decide +kernel
theorem dX11_props_138 : decode cX11_props 138 = .ok (.iconst 1, 1) := by decide +kernel
theorem dX11_props_139 : decode cX11_props 139 = .ok (.if_icmp .ne 14, 3) := by decide +kernel
theorem dX11_props_142 : decode cX11_props 142 = .ok (.iload 5, 2) := by decide +kernel
theorem dX11_props_144 : decode cX11_props 144 = .ok (.ifCond .eq 9, 3) := by decide +kernel
theorem dX11_props_147 : decode cX11_props 147 = .ok (.iconst 1, 1) := by decide +kernel
theorem dX11_props_148 : decode cX11_props 148 = .ok (.iload_n 3, 1) := by decide +kernel
theorem dX11_props_149 : decode cX11_props 149 = .ok (.ishl, 1) := by decide +kernel
theorem dX11_props_150 : decode cX11_props 150 = .ok (.goto 4, 3) := by decide +kernel
theorem dX11_props_153 : decode cX11_props 153 = .ok (.iconst 0, 1) := by decide +kernel
theorem dX11_props_154 : decode cX11_props 154 = .ok (.ior, 1) := by decide +kernel
theorem dX11_props_155 : decode cX11_props 155 = .ok (.istore_n 2, 1) := by decide +kernel
theorem dX11_props_156 : decode cX11_props 156 = .ok (.iinc 3 1, 3) := by decide +kernel
theorem dX11_props_159 : decode cX11_props 159 = .ok (.goto (-150), 3) := by decide +kernel
theorem dX11_props_162 : decode cX11_props 162 = .ok (.iload_n 2, 1) := by decide +kernel
theorem dX11_props_163 : decode cX11_props 163 = .ok (.ireturn, 1) := by decide +kernel
theorem dX11_gone_0 : decode cX11_gone 0 = .ok (.aload_n 0, 1) := by decide +kernel
theorem dX11_gone_1 : decode cX11_gone 1 = .ok (.iload_n 1, 1) := by decide +kernel
theorem dX11_gone_2 : decode cX11_gone 2 = .ok (.invokevirtual 250, 3) := by decide +kernel
theorem dX11_gone_5 : decode cX11_gone 5 = .ok (.ifCond .ne 6, 3) := by decide +kernel
theorem dX11_gone_8 : decode cX11_gone 8 = .ok (.bipush (-2), 2) := by decide +kernel
theorem dX11_gone_10 : decode cX11_gone 10 = .ok (.ireturn, 1) := by decide +kernel
theorem dX11_gone_11 : decode cX11_gone 11 = .ok (.iload_n 2, 1) := by decide +kernel
theorem dX11_gone_12 : decode cX11_gone 12 = .ok (.i2l, 1) := by decide +kernel
theorem dX11_gone_13 : decode cX11_gone 13 = .ok (.lconst 0, 1) := by decide +kernel
theorem dX11_gone_14 : decode cX11_gone 14 = .ok (.lconst 1, 1) := by decide +kernel
theorem dX11_gone_15 : decode cX11_gone 15 = .ok (.invokestatic 60, 3) := by decide +kernel
theorem dX11_gone_18 : decode cX11_gone 18 = .ok (.ifCond .ne 6, 3) := by decide +kernel
theorem dX11_gone_21 : decode cX11_gone 21 = .ok (.bipush (-3), 2) := by decide +kernel
theorem dX11_gone_23 : decode cX11_gone 23 = .ok (.ireturn, 1) := by decide +kernel
theorem dX11_gone_24 : decode cX11_gone 24 = .ok (.aload_n 0, 1) := by decide +kernel
theorem dX11_gone_25 : decode cX11_gone 25 = .ok (.aload_n 0, 1) := by decide +kernel
theorem dX11_gone_26 : decode cX11_gone 26 = .ok (.getfield 156, 3) := by decide +kernel
theorem dX11_gone_29 : decode cX11_gone 29 = .ok (.invokevirtual 253, 3) := by decide +kernel
theorem dX11_gone_32 : decode cX11_gone 32 = .ok (.aload_n 0, 1) := by decide +kernel
theorem dX11_gone_33 : decode cX11_gone 33 = .ok (.iload_n 1, 1) := by decide +kernel
theorem dX11_gone_34 : decode cX11_gone 34 = .ok (.invokevirtual 256, 3) := by decide +kernel
theorem dX11_gone_37 : decode cX11_gone 37 = .ok (.istore_n 3, 1) := by decide +kernel
theorem dX11_gone_38 : decode cX11_gone 38 = .ok (.iconst (-1), 1) := by decide +kernel
theorem dX11_gone_39 : decode cX11_gone 39 = .ok (.istore 4, 2) := by decide +kernel
theorem dX11_gone_41 : decode cX11_gone 41 = .ok (.iconst 0, 1) := by decide +kernel
theorem dX11_gone_42 : decode cX11_gone 42 = .ok (.istore 5, 2) := by decide +kernel
theorem dX11_gone_44 : decode cX11_gone 44 = .ok (.iload 5, 2) := by decide +kernel
theorem dX11_gone_46 : decode cX11_gone 46 = .ok (.aload_n 0, 1) := by decide +kernel
theorem dX11_gone_47 : decode cX11_gone 47 = .ok (.getfield 136, 3) := by decide +kernel
theorem dX11_gone_50 : decode cX11_gone 50 = .ok (.if_icmp .ge 76, 3) := by decide +kernel
theorem dX11_gone_53 : decode cX11_gone 53 = .ok (.iload_n 1, 1) := by decide +kernel
theorem dX11_gone_54 : decode cX11_gone 54 = .ok (.iload 5, 2) := by decide +kernel
theorem dX11_gone_56 : decode cX11_gone 56 = .ok (.invokestatic 174, 3) := by decide +kernel
theorem dX11_gone_59 : decode cX11_gone 59 = .ok (.ifCond .ne 61, 3) := by decide +kernel
theorem dX11_gone_62 : decode cX11_gone 62 = .ok (.aload_n 0, 1) := by decide +kernel
theorem dX11_gone_63 : decode cX11_gone 63 = .ok (.getfield 156, 3) := by decide +kernel
theorem dX11_gone_66 : decode cX11_gone 66 = .ok (.iload 5, 2) := by decide +kernel
theorem dX11_gone_68 : decode cX11_gone 68 = .ok (.invokestatic 174, 3) := by decide +kernel
theorem dX11_gone_71 : decode cX11_gone 71 = .ok (.ifCond .eq 49, 3) := by decide +kernel
theorem dX11_gone_74 : decode cX11_gone 74 = .ok (.aload_n 0, 1) := by decide +kernel
theorem dX11_gone_75 : decode cX11_gone 75 = .ok (.aload_n 0, 1) := by decide +kernel
theorem dX11_gone_76 : decode cX11_gone 76 = .ok (.getfield 156, 3) := by decide +kernel
theorem dX11_gone_79 : decode cX11_gone 79 = .ok (.iconst 1, 1) := by decide +kernel
theorem dX11_gone_80 : decode cX11_gone 80 = .ok (.iload 5, 2) := by decide +kernel
theorem dX11_gone_82 : decode cX11_gone 82 = .ok (.ishl, 1) := by decide +kernel
theorem dX11_gone_83 : decode cX11_gone 83 = .ok (.iconst (-1), 1) := by decide +kernel
theorem dX11_gone_84 : decode cX11_gone 84 = .ok (.ixor, 1) := by decide +kernel
theorem dX11_gone_85 : decode cX11_gone 85 = .ok (.iand, 1) := by decide +kernel
theorem dX11_gone_86 : decode cX11_gone 86 = .ok (.invokevirtual 253, 3) := by decide +kernel
theorem dX11_gone_89 : decode cX11_gone 89 = .ok (.aload_n 0, 1) := by decide +kernel
theorem dX11_gone_90 : decode cX11_gone 90 = .ok (.iload_n 1, 1) := by decide +kernel
theorem dX11_gone_91 : decode cX11_gone 91 = .ok (.invokevirtual 256, 3) := by decide +kernel
theorem dX11_gone_94 : decode cX11_gone 94 = .ok (.istore 6, 2) := by decide +kernel
theorem dX11_gone_96 : decode cX11_gone 96 = .ok (.iload 6, 2) := by decide +kernel
theorem dX11_gone_98 : decode cX11_gone 98 = .ok (.iconst (-1), 1) := by decide +kernel
theorem dX11_gone_99 : decode cX11_gone 99 = .ok (.if_icmp .eq 21, 3) := by decide +kernel
theorem dX11_gone_102 : decode cX11_gone 102 = .ok (.iload_n 3, 1) := by decide +kernel
theorem dX11_gone_103 : decode cX11_gone 103 = .ok (.iconst (-1), 1) := by decide +kernel
theorem dX11_gone_104 : decode cX11_gone 104 = .ok (.if_icmp .eq 9, 3) := by decide +kernel
theorem dX11_gone_107 : decode cX11_gone 107 = .ok (.iload 6, 2) := by decide +kernel
theorem dX11_gone_109 : decode cX11_gone 109 = .ok (.iload_n 3, 1) := by decide +kernel
theorem dX11_gone_110 : decode cX11_gone 110 = .ok (.if_icmp .ge 10, 3) := by decide +kernel
theorem dX11_gone_113 : decode cX11_gone 113 = .ok (.iload 6, 2) := by decide +kernel
theorem dX11_gone_115 : decode cX11_gone 115 = .ok (.istore_n 3, 1) := by decide +kernel
theorem dX11_gone_116 : decode cX11_gone 116 = .ok (.iload 5, 2) := by decide +kernel
theorem dX11_gone_118 : decode cX11_gone 118 = .ok (.istore 4, 2) := by decide +kernel
theorem dX11_gone_120 : decode cX11_gone 120 = .ok (.iinc 5 1, 3) := by decide +kernel
theorem dX11_gone_123 : decode cX11_gone 123 = .ok (.goto (-79), 3) := by decide +kernel
theorem dX11_gone_126 : decode cX11_gone 126 = .ok (.iload 4, 2) := by decide +kernel
theorem dX11_gone_128 : decode cX11_gone 128 = .ok (.iconst (-1), 1) := by decide +kernel
theorem dX11_gone_129 : decode cX11_gone 129 = .ok (.if_icmp .ne 7, 3) := by decide +kernel
theorem dX11_gone_132 : decode cX11_gone 132 = .ok (.iconst (-1), 1) := by decide +kernel
theorem dX11_gone_133 : decode cX11_gone 133 = .ok (.goto 13, 3) := by decide +kernel
theorem dX11_gone_136 : decode cX11_gone 136 = .ok (.iload_n 2, 1) := by decide +kernel
theorem dX11_gone_137 : decode cX11_gone 137 = .ok (.ifCond .ne 8, 3) := by decide +kernel
theorem dX11_gone_140 : decode cX11_gone 140 = .ok (.iload 4, 2) := by decide +kernel
theorem dX11_gone_142 : decode cX11_gone 142 = .ok (.goto 4, 3) := by decide +kernel
theorem dX11_gone_145 : decode cX11_gone 145 = .ok (.iload_n 3, 1) := by decide +kernel
theorem dX11_gone_146 : decode cX11_gone 146 = .ok (.ireturn, 1) := by decide +kernel
theorem dX11_many_0 : decode cX11_many 0 = .ok (.iload_n 1, 1) := by decide +kernel
theorem dX11_many_1 : decode cX11_many 1 = .ok (.ifCond .ge 6, 3) := by decide +kernel
theorem dX11_many_4 : decode cX11_many 4 = .ok (.bipush (-3), 2) := by decide +kernel
theorem dX11_many_6 : decode cX11_many 6 = .ok (.ireturn, 1) := by decide +kernel
theorem dX11_many_7 : decode cX11_many 7 = .ok (.aload_n 0, 1) := by decide +kernel
theorem dX11_many_8 : decode cX11_many 8 = .ok (.aload_n 0, 1) := by decide +kernel
theorem dX11_many_9 : decode cX11_many 9 = .ok (.getfield 156, 3) := by decide +kernel
theorem dX11_many_12 : decode cX11_many 12 = .ok (.invokevirtual 253, 3) := by decide +kernel
theorem dX11_many_15 : decode cX11_many 15 = .ok (.iconst 0, 1) := by decide +kernel
theorem dX11_many_16 : decode cX11_many 16 = .ok (.istore_n 2, 1) := by decide +kernel
theorem dX11_many_17 : decode cX11_many 17 = .ok (.iconst 0, 1) := by decide +kernel
theorem dX11_many_18 : decode cX11_many 18 = .ok (.istore_n 3, 1) := by decide +kernel
theorem dX11_many_19 : decode cX11_many 19 = .ok (.iload_n 3, 1) := by decide +kernel
theorem dX11_many_20 : decode cX11_many 20 = .ok (.aload_n 0, 1) := by decide +kernel
theorem dX11_many_21 : decode cX11_many 21 = .ok (.getfield 233, 3) := by decide +kernel
theorem dX11_many_24 : decode cX11_many 24 = .ok (.if_icmp .ge 32, 3) := by decide +kernel
theorem dX11_many_27 : decode cX11_many 27 = .ok (.iload_n 2, 1) := by decide +kernel
theorem dX11_many_28 : decode cX11_many 28 = .ok (.aload_n 0, 1) := by decide +kernel
theorem dX11_many_29 : decode cX11_many 29 = .ok (.getfield 37, 3) := by decide +kernel
theorem dX11_many_32 : decode cX11_many 32 = .ok (.aload_n 0, 1) := by decide +kernel
theorem dX11_many_33 : decode cX11_many 33 = .ok (.getfield 40, 3) := by decide +kernel
theorem dX11_many_36 : decode cX11_many 36 = .ok (.iload_n 3, 1) := by decide +kernel
theorem dX11_many_37 : decode cX11_many 37 = .ok (.iaload, 1) := by decide +kernel
theorem dX11_many_38 : decode cX11_many 38 = .ok (.iaload, 1) := by decide +kernel
theorem dX11_many_39 : decode cX11_many 39 = .ok (.iload_n 1, 1) := by decide +kernel
theorem dX11_many_40 : decode cX11_many 40 = .ok (.if_icmp .ne 7, 3) := by decide +kernel
theorem dX11_many_43 : decode cX11_many 43 = .ok (.iconst 1, 1) := by decide +kernel
theorem dX11_many_44 : decode cX11_many 44 = .ok (.goto 4, 3) := by decide +kernel
theorem dX11_many_47 : decode cX11_many 47 = .ok (.iconst 0, 1) := by decide +kernel
theorem dX11_many_48 : decode cX11_many 48 = .ok (.iadd, 1) := by decide +kernel
theorem dX11_many_49 : decode cX11_many 49 = .ok (.istore_n 2, 1) := by decide +kernel
theorem dX11_many_50 : decode cX11_many 50 = .ok (.iinc 3 1, 3) := by decide +kernel
theorem dX11_many_53 : decode cX11_many 53 = .ok (.goto (-34), 3) := by decide +kernel
theorem dX11_many_56 : decode cX11_many 56 = .ok (.iload_n 2, 1) := by decide +kernel
theorem dX11_many_57 : decode cX11_many 57 = .ok (.ireturn, 1) := by decide +kernel
theorem dX11_farthest_0 : decode cX11_farthest 0 = .ok (.aload_n 0, 1) := by decide +kernel
theorem dX11_farthest_1 : decode cX11_farthest 1 = .ok (.aload_n 0, 1) := by decide +kernel
theorem dX11_farthest_2 : decode cX11_farthest 2 = .ok (.getfield 156, 3) := by decide +kernel
theorem dX11_farthest_5 : decode cX11_farthest 5 = .ok (.invokevirtual 253, 3) := by decide +kernel
theorem dX11_farthest_8 : decode cX11_farthest 8 = .ok (.aload_n 0, 1) := by decide +kernel
theorem dX11_farthest_9 : decode cX11_farthest 9 = .ok (.getfield 37, 3) := by decide +kernel
theorem dX11_farthest_12 : decode cX11_farthest 12 = .ok (.aload_n 0, 1) := by decide +kernel
theorem dX11_farthest_13 : decode cX11_farthest 13 = .ok (.getfield 40, 3) := by decide +kernel
theorem dX11_farthest_16 : decode cX11_farthest 16 = .ok (.aload_n 0, 1) := by decide +kernel
theorem dX11_farthest_17 : decode cX11_farthest 17 = .ok (.getfield 233, 3) := by decide +kernel
theorem dX11_farthest_20 : decode cX11_farthest 20 = .ok (.iconst 1, 1) := by decide +kernel
theorem dX11_farthest_21 : decode cX11_farthest 21 = .ok (.isub, 1) := by decide +kernel
theorem dX11_farthest_22 : decode cX11_farthest 22 = .ok (.iaload, 1) := by decide +kernel
theorem dX11_farthest_23 : decode cX11_farthest 23 = .ok (.iaload, 1) := by decide +kernel
theorem dX11_farthest_24 : decode cX11_farthest 24 = .ok (.ireturn, 1) := by decide +kernel
theorem dX11_row_0 : decode cX11_row 0 = .ok (.aload_n 0, 1) := by decide +kernel
theorem dX11_row_1 : decode cX11_row 1 = .ok (.iload_n 1, 1) := by decide +kernel
theorem dX11_row_2 : decode cX11_row 2 = .ok (.iload_n 2, 1) := by decide +kernel
theorem dX11_row_3 : decode cX11_row 3 = .ok (.iload_n 3, 1) := by decide +kernel
theorem dX11_row_4 : decode cX11_row 4 = .ok (.invokevirtual 224, 3) := by decide +kernel
theorem dX11_row_7 : decode cX11_row 7 = .ok (.istore 4, 2) := by decide +kernel
theorem dX11_row_9 : decode cX11_row 9 = .ok (.iload 4, 2) := by decide +kernel
theorem dX11_row_11 : decode cX11_row 11 = .ok (.ifCond .ge 6, 3) := by decide +kernel
theorem dX11_row_14 : decode cX11_row 14 = .ok (.iload 4, 2) := by decide +kernel
theorem dX11_row_16 : decode cX11_row 16 = .ok (.ireturn, 1) := by decide +kernel
theorem dX11_row_17 : decode cX11_row 17 = .ok (.aload_n 0, 1) := by decide +kernel
theorem dX11_row_18 : decode cX11_row 18 = .ok (.getfield 165, 3) := by decide +kernel
theorem dX11_row_21 : decode cX11_row 21 = .ok (.bipush 12, 2) := by decide +kernel
theorem dX11_row_23 : decode cX11_row 23 = .ok (.if_icmp .ne 6, 3) := by decide +kernel
theorem dX11_row_26 : decode cX11_row 26 = .ok (.bipush (-5), 2) := by decide +kernel
theorem dX11_row_28 : decode cX11_row 28 = .ok (.ireturn, 1) := by decide +kernel
theorem dX11_row_29 : decode cX11_row 29 = .ok (.aload_n 0, 1) := by decide +kernel
theorem dX11_row_30 : decode cX11_row 30 = .ok (.getfield 49, 3) := by decide +kernel
theorem dX11_row_33 : decode cX11_row 33 = .ok (.aload_n 0, 1) := by decide +kernel
theorem dX11_row_34 : decode cX11_row 34 = .ok (.getfield 165, 3) := by decide +kernel
theorem dX11_row_37 : decode cX11_row 37 = .ok (.iload 4, 2) := by decide +kernel
theorem dX11_row_39 : decode cX11_row 39 = .ok (.iastore, 1) := by decide +kernel
theorem dX11_row_40 : decode cX11_row 40 = .ok (.aload_n 0, 1) := by decide +kernel
theorem dX11_row_41 : decode cX11_row 41 = .ok (.dup, 1) := by decide +kernel
theorem dX11_row_42 : decode cX11_row 42 = .ok (.getfield 165, 3) := by decide +kernel
theorem dX11_row_45 : decode cX11_row 45 = .ok (.iconst 1, 1) := by decide +kernel
theorem dX11_row_46 : decode cX11_row 46 = .ok (.iadd, 1) := by decide +kernel
theorem dX11_row_47 : decode cX11_row 47 = .ok (.putfield 165, 3) := by decide +kernel
theorem dX11_row_50 : decode cX11_row 50 = .ok (.aload_n 0, 1) := by decide +kernel
theorem dX11_row_51 : decode cX11_row 51 = .ok (.getfield 165, 3) := by decide +kernel
theorem dX11_row_54 : decode cX11_row 54 = .ok (.ireturn, 1) := by decide +kernel
theorem dX11_burn_0 : decode cX11_burn 0 = .ok (.aload_n 0, 1) := by decide +kernel
theorem dX11_burn_1 : decode cX11_burn 1 = .ok (.getfield 165, 3) := by decide +kernel
theorem dX11_burn_4 : decode cX11_burn 4 = .ok (.istore_n 1, 1) := by decide +kernel
theorem dX11_burn_5 : decode cX11_burn 5 = .ok (.aload_n 0, 1) := by decide +kernel
theorem dX11_burn_6 : decode cX11_burn 6 = .ok (.iconst 0, 1) := by decide +kernel
theorem dX11_burn_7 : decode cX11_burn 7 = .ok (.putfield 165, 3) := by decide +kernel
theorem dX11_burn_10 : decode cX11_burn 10 = .ok (.iload_n 1, 1) := by decide +kernel
theorem dX11_burn_11 : decode cX11_burn 11 = .ok (.ireturn, 1) := by decide +kernel
theorem dX11_judge_0 : decode cX11_judge 0 = .ok (.iload_n 1, 1) := by decide +kernel
theorem dX11_judge_1 : decode cX11_judge 1 = .ok (.i2l, 1) := by decide +kernel
theorem dX11_judge_2 : decode cX11_judge 2 = .ok (.lconst 0, 1) := by decide +kernel
theorem dX11_judge_3 : decode cX11_judge 3 = .ok (.lconst 1, 1) := by decide +kernel
theorem dX11_judge_4 : decode cX11_judge 4 = .ok (.invokestatic 60, 3) := by decide +kernel
theorem dX11_judge_7 : decode cX11_judge 7 = .ok (.ifCond .ne 6, 3) := by decide +kernel
theorem dX11_judge_10 : decode cX11_judge 10 = .ok (.bipush (-3), 2) := by decide +kernel
theorem dX11_judge_12 : decode cX11_judge 12 = .ok (.ireturn, 1) := by decide +kernel
theorem dX11_judge_13 : decode cX11_judge 13 = .ok (.aload_n 0, 1) := by decide +kernel
theorem dX11_judge_14 : decode cX11_judge 14 = .ok (.getfield 156, 3) := by decide +kernel
theorem dX11_judge_17 : decode cX11_judge 17 = .ok (.istore_n 2, 1) := by decide +kernel
theorem dX11_judge_18 : decode cX11_judge 18 = .ok (.iconst 0, 1) := by decide +kernel
theorem dX11_judge_19 : decode cX11_judge 19 = .ok (.istore_n 3, 1) := by decide +kernel
theorem dX11_judge_20 : decode cX11_judge 20 = .ok (.iload_n 3, 1) := by decide +kernel
theorem dX11_judge_21 : decode cX11_judge 21 = .ok (.aload_n 0, 1) := by decide +kernel
theorem dX11_judge_22 : decode cX11_judge 22 = .ok (.getfield 165, 3) := by decide +kernel
theorem dX11_judge_25 : decode cX11_judge 25 = .ok (.if_icmp .ge 35, 3) := by decide +kernel
theorem dX11_judge_28 : decode cX11_judge 28 = .ok (.aload_n 0, 1) := by decide +kernel
theorem dX11_judge_29 : decode cX11_judge 29 = .ok (.iload_n 2, 1) := by decide +kernel
theorem dX11_judge_30 : decode cX11_judge 30 = .ok (.aload_n 0, 1) := by decide +kernel
theorem dX11_judge_31 : decode cX11_judge 31 = .ok (.getfield 49, 3) := by decide +kernel
theorem dX11_judge_34 : decode cX11_judge 34 = .ok (.iload_n 3, 1) := by decide +kernel
theorem dX11_judge_35 : decode cX11_judge 35 = .ok (.iaload, 1) := by decide +kernel
theorem dX11_judge_36 : decode cX11_judge 36 = .ok (.invokevirtual 227, 3) := by decide +kernel
theorem dX11_judge_39 : decode cX11_judge 39 = .ok (.ifCond .eq 21, 3) := by decide +kernel
theorem dX11_judge_42 : decode cX11_judge 42 = .ok (.aload_n 0, 1) := by decide +kernel
theorem dX11_judge_43 : decode cX11_judge 43 = .ok (.iload_n 2, 1) := by decide +kernel
theorem dX11_judge_44 : decode cX11_judge 44 = .ok (.aload_n 0, 1) := by decide +kernel
theorem dX11_judge_45 : decode cX11_judge 45 = .ok (.getfield 49, 3) := by decide +kernel
theorem dX11_judge_48 : decode cX11_judge 48 = .ok (.iload_n 3, 1) := by decide +kernel
theorem dX11_judge_49 : decode cX11_judge 49 = .ok (.iaload, 1) := by decide +kernel
theorem dX11_judge_50 : decode cX11_judge 50 = .ok (.invokevirtual 230, 3) := by decide +kernel
theorem dX11_judge_53 : decode cX11_judge 53 = .ok (.istore_n 2, 1) := by decide +kernel
theorem dX11_judge_54 : decode cX11_judge 54 = .ok (.iinc 3 1, 3) := by decide +kernel
theorem dX11_judge_57 : decode cX11_judge 57 = .ok (.goto (-37), 3) := by decide +kernel
theorem dX11_judge_60 : decode cX11_judge 60 = .ok (.iload_n 1, 1) := by decide +kernel
theorem dX11_judge_61 : decode cX11_judge 61 = .ok (.iconst 1, 1) := by decide +kernel
theorem dX11_judge_62 : decode cX11_judge 62 = .ok (.if_icmp .ne 13, 3) := by decide +kernel
theorem dX11_judge_65 : decode cX11_judge 65 = .ok (.iload_n 2, 1) := by decide +kernel
theorem dX11_judge_66 : decode cX11_judge 66 = .ok (.invokestatic 277, 3) := by decide +kernel
theorem dX11_judge_69 : decode cX11_judge 69 = .ok (.invokestatic 265, 3) := by decide +kernel
theorem dX11_judge_72 : decode cX11_judge 72 = .ok (.goto 16, 3) := by decide +kernel
theorem dX11_judge_75 : decode cX11_judge 75 = .ok (.iload_n 3, 1) := by decide +kernel
theorem dX11_judge_76 : decode cX11_judge 76 = .ok (.aload_n 0, 1) := by decide +kernel
theorem dX11_judge_77 : decode cX11_judge 77 = .ok (.getfield 165, 3) := by decide +kernel
theorem dX11_judge_80 : decode cX11_judge 80 = .ok (.if_icmp .ne 7, 3) := by decide +kernel
theorem dX11_judge_83 : decode cX11_judge 83 = .ok (.iconst (-1), 1) := by decide +kernel
theorem dX11_judge_84 : decode cX11_judge 84 = .ok (.goto 4, 3) := by decide +kernel
theorem dX11_judge_87 : decode cX11_judge 87 = .ok (.iload_n 3, 1) := by decide +kernel
theorem dX11_judge_88 : decode cX11_judge 88 = .ok (.ireturn, 1) := by decide +kernel
theorem dX11_prince_0 : decode cX11_prince 0 = .ok (.aload_n 0, 1) := by decide +kernel
theorem dX11_prince_1 : decode cX11_prince 1 = .ok (.iload_n 1, 1) := by decide +kernel
theorem dX11_prince_2 : decode cX11_prince 2 = .ok (.invokevirtual 210, 3) := by decide +kernel
theorem dX11_prince_5 : decode cX11_prince 5 = .ok (.ifCond .eq 16, 3) := by decide +kernel
theorem dX11_prince_8 : decode cX11_prince 8 = .ok (.aload_n 0, 1) := by decide +kernel
theorem dX11_prince_9 : decode cX11_prince 9 = .ok (.iload_n 3, 1) := by decide +kernel
theorem dX11_prince_10 : decode cX11_prince 10 = .ok (.invokevirtual 210, 3) := by decide +kernel
theorem dX11_prince_13 : decode cX11_prince 13 = .ok (.ifCond .eq 8, 3) := by decide +kernel
theorem dX11_prince_16 : decode cX11_prince 16 = .ok (.iload_n 1, 1) := by decide +kernel
theorem dX11_prince_17 : decode cX11_prince 17 = .ok (.iload_n 3, 1) := by decide +kernel
theorem dX11_prince_18 : decode cX11_prince 18 = .ok (.if_icmp .ne 6, 3) := by decide +kernel
theorem dX11_prince_21 : decode cX11_prince 21 = .ok (.bipush (-2), 2) := by decide +kernel
theorem dX11_prince_23 : decode cX11_prince 23 = .ok (.ireturn, 1) := by decide +kernel
theorem dX11_prince_24 : decode cX11_prince 24 = .ok (.iload_n 2, 1) := by decide +kernel
theorem dX11_prince_25 : decode cX11_prince 25 = .ok (.i2l, 1) := by decide +kernel
theorem dX11_prince_26 : decode cX11_prince 26 = .ok (.lconst 0, 1) := by decide +kernel
theorem dX11_prince_27 : decode cX11_prince 27 = .ok (.ldc2_w 222, 3) := by decide +kernel
theorem dX11_prince_30 : decode cX11_prince 30 = .ok (.invokestatic 60, 3) := by decide +kernel
theorem dX11_prince_33 : decode cX11_prince 33 = .ok (.ifCond .ne 6, 3) := by decide +kernel
theorem dX11_prince_36 : decode cX11_prince 36 = .ok (.bipush (-3), 2) := by decide +kernel
theorem dX11_prince_38 : decode cX11_prince 38 = .ok (.ireturn, 1) := by decide +kernel
theorem dX11_prince_39 : decode cX11_prince 39 = .ok (.aload_n 0, 1) := by decide +kernel
theorem dX11_prince_40 : decode cX11_prince 40 = .ok (.getfield 168, 3) := by decide +kernel
theorem dX11_prince_43 : decode cX11_prince 43 = .ok (.iconst 5, 1) := by decide +kernel
theorem dX11_prince_44 : decode cX11_prince 44 = .ok (.if_icmp .ne 6, 3) := by decide +kernel
theorem dX11_prince_47 : decode cX11_prince 47 = .ok (.bipush (-5), 2) := by decide +kernel
theorem dX11_prince_49 : decode cX11_prince 49 = .ok (.ireturn, 1) := by decide +kernel
theorem dX11_prince_50 : decode cX11_prince 50 = .ok (.aload_n 0, 1) := by decide +kernel
theorem dX11_prince_51 : decode cX11_prince 51 = .ok (.getfield 52, 3) := by decide +kernel
theorem dX11_prince_54 : decode cX11_prince 54 = .ok (.iconst 3, 1) := by decide +kernel
theorem dX11_prince_55 : decode cX11_prince 55 = .ok (.aload_n 0, 1) := by decide +kernel
theorem dX11_prince_56 : decode cX11_prince 56 = .ok (.getfield 168, 3) := by decide +kernel
theorem dX11_prince_59 : decode cX11_prince 59 = .ok (.imul, 1) := by decide +kernel
theorem dX11_prince_60 : decode cX11_prince 60 = .ok (.iload_n 1, 1) := by decide +kernel
theorem dX11_prince_61 : decode cX11_prince 61 = .ok (.iastore, 1) := by decide +kernel
theorem dX11_prince_62 : decode cX11_prince 62 = .ok (.aload_n 0, 1) := by decide +kernel
theorem dX11_prince_63 : decode cX11_prince 63 = .ok (.getfield 52, 3) := by decide +kernel
theorem dX11_prince_66 : decode cX11_prince 66 = .ok (.iconst 3, 1) := by decide +kernel
theorem dX11_prince_67 : decode cX11_prince 67 = .ok (.aload_n 0, 1) := by decide +kernel
theorem dX11_prince_68 : decode cX11_prince 68 = .ok (.getfield 168, 3) := by decide +kernel
theorem dX11_prince_71 : decode cX11_prince 71 = .ok (.imul, 1) := by decide +kernel
theorem dX11_prince_72 : decode cX11_prince 72 = .ok (.iconst 1, 1) := by decide +kernel
theorem dX11_prince_73 : decode cX11_prince 73 = .ok (.iadd, 1) := by decide +kernel
theorem dX11_prince_74 : decode cX11_prince 74 = .ok (.iload_n 2, 1) := by decide +kernel
theorem dX11_prince_75 : decode cX11_prince 75 = .ok (.iastore, 1) := by decide +kernel
theorem dX11_prince_76 : decode cX11_prince 76 = .ok (.aload_n 0, 1) := by decide +kernel
theorem dX11_prince_77 : decode cX11_prince 77 = .ok (.getfield 52, 3) := by decide +kernel
theorem dX11_prince_80 : decode cX11_prince 80 = .ok (.iconst 3, 1) := by decide +kernel
theorem dX11_prince_81 : decode cX11_prince 81 = .ok (.aload_n 0, 1) := by decide +kernel
theorem dX11_prince_82 : decode cX11_prince 82 = .ok (.getfield 168, 3) := by decide +kernel
theorem dX11_prince_85 : decode cX11_prince 85 = .ok (.imul, 1) := by decide +kernel
theorem dX11_prince_86 : decode cX11_prince 86 = .ok (.iconst 2, 1) := by decide +kernel
theorem dX11_prince_87 : decode cX11_prince 87 = .ok (.iadd, 1) := by decide +kernel
theorem dX11_prince_88 : decode cX11_prince 88 = .ok (.iload_n 3, 1) := by decide +kernel
theorem dX11_prince_89 : decode cX11_prince 89 = .ok (.iastore, 1) := by decide +kernel
theorem dX11_prince_90 : decode cX11_prince 90 = .ok (.aload_n 0, 1) := by decide +kernel
theorem dX11_prince_91 : decode cX11_prince 91 = .ok (.dup, 1) := by decide +kernel
theorem dX11_prince_92 : decode cX11_prince 92 = .ok (.getfield 168, 3) := by decide +kernel
theorem dX11_prince_95 : decode cX11_prince 95 = .ok (.iconst 1, 1) := by decide +kernel
theorem dX11_prince_96 : decode cX11_prince 96 = .ok (.iadd, 1) := by decide +kernel
theorem dX11_prince_97 : decode cX11_prince 97 = .ok (.putfield 168, 3) := by decide +kernel
theorem dX11_prince_100 : decode cX11_prince 100 = .ok (.aload_n 0, 1) := by decide +kernel
theorem dX11_prince_101 : decode cX11_prince 101 = .ok (.getfield 168, 3) := by decide +kernel
theorem dX11_prince_104 : decode cX11_prince 104 = .ok (.ireturn, 1) := by decide +kernel
theorem dX11_dismiss_0 : decode cX11_dismiss 0 = .ok (.aload_n 0, 1) := by decide +kernel
theorem dX11_dismiss_1 : decode cX11_dismiss 1 = .ok (.getfield 168, 3) := by decide +kernel
theorem dX11_dismiss_4 : decode cX11_dismiss 4 = .ok (.istore_n 1, 1) := by decide +kernel
theorem dX11_dismiss_5 : decode cX11_dismiss 5 = .ok (.aload_n 0, 1) := by decide +kernel
theorem dX11_dismiss_6 : decode cX11_dismiss 6 = .ok (.iconst 0, 1) := by decide +kernel
theorem dX11_dismiss_7 : decode cX11_dismiss 7 = .ok (.putfield 168, 3) := by decide +kernel
theorem dX11_dismiss_10 : decode cX11_dismiss 10 = .ok (.iload_n 1, 1) := by decide +kernel
theorem dX11_dismiss_11 : decode cX11_dismiss 11 = .ok (.ireturn, 1) := by decide +kernel
theorem dX11_inLine_0 : decode cX11_inLine 0 = .ok (.iload_n 1, 1) := by decide +kernel
theorem dX11_inLine_1 : decode cX11_inLine 1 = .ok (.i2l, 1) := by decide +kernel
theorem dX11_inLine_2 : decode cX11_inLine 2 = .ok (.lconst 0, 1) := by decide +kernel
theorem dX11_inLine_3 : decode cX11_inLine 3 = .ok (.lconst 1, 1) := by decide +kernel
theorem dX11_inLine_4 : decode cX11_inLine 4 = .ok (.invokestatic 60, 3) := by decide +kernel
theorem dX11_inLine_7 : decode cX11_inLine 7 = .ok (.ifCond .ne 6, 3) := by decide +kernel
theorem dX11_inLine_10 : decode cX11_inLine 10 = .ok (.bipush (-3), 2) := by decide +kernel
theorem dX11_inLine_12 : decode cX11_inLine 12 = .ok (.ireturn, 1) := by decide +kernel
theorem dX11_inLine_13 : decode cX11_inLine 13 = .ok (.aload_n 0, 1) := by decide +kernel
theorem dX11_inLine_14 : decode cX11_inLine 14 = .ok (.getfield 156, 3) := by decide +kernel
theorem dX11_inLine_17 : decode cX11_inLine 17 = .ok (.istore_n 2, 1) := by decide +kernel
theorem dX11_inLine_18 : decode cX11_inLine 18 = .ok (.iconst 0, 1) := by decide +kernel
theorem dX11_inLine_19 : decode cX11_inLine 19 = .ok (.istore_n 3, 1) := by decide +kernel
theorem dX11_inLine_20 : decode cX11_inLine 20 = .ok (.iconst 0, 1) := by decide +kernel
theorem dX11_inLine_21 : decode cX11_inLine 21 = .ok (.istore 4, 2) := by decide +kernel
theorem dX11_inLine_23 : decode cX11_inLine 23 = .ok (.iconst 0, 1) := by decide +kernel
theorem dX11_inLine_24 : decode cX11_inLine 24 = .ok (.istore 5, 2) := by decide +kernel
theorem dX11_inLine_26 : decode cX11_inLine 26 = .ok (.iload 5, 2) := by decide +kernel
theorem dX11_inLine_28 : decode cX11_inLine 28 = .ok (.aload_n 0, 1) := by decide +kernel
theorem dX11_inLine_29 : decode cX11_inLine 29 = .ok (.getfield 168, 3) := by decide +kernel
theorem dX11_inLine_32 : decode cX11_inLine 32 = .ok (.if_icmp .ge 109, 3) := by decide +kernel
theorem dX11_inLine_35 : decode cX11_inLine 35 = .ok (.iload_n 2, 1) := by decide +kernel
theorem dX11_inLine_36 : decode cX11_inLine 36 = .ok (.invokestatic 180, 3) := by decide +kernel
theorem dX11_inLine_39 : decode cX11_inLine 39 = .ok (.aload_n 0, 1) := by decide +kernel
theorem dX11_inLine_40 : decode cX11_inLine 40 = .ok (.getfield 52, 3) := by decide +kernel
theorem dX11_inLine_43 : decode cX11_inLine 43 = .ok (.iconst 3, 1) := by decide +kernel
theorem dX11_inLine_44 : decode cX11_inLine 44 = .ok (.iload 5, 2) := by decide +kernel
theorem dX11_inLine_46 : decode cX11_inLine 46 = .ok (.imul, 1) := by decide +kernel
theorem dX11_inLine_47 : decode cX11_inLine 47 = .ok (.iconst 1, 1) := by decide +kernel
theorem dX11_inLine_48 : decode cX11_inLine 48 = .ok (.iadd, 1) := by decide +kernel
theorem dX11_inLine_49 : decode cX11_inLine 49 = .ok (.iaload, 1) := by decide +kernel
theorem dX11_inLine_50 : decode cX11_inLine 50 = .ok (.if_icmp .eq 29, 3) := by decide +kernel
theorem dX11_inLine_53 : decode cX11_inLine 53 = .ok (.aload_n 0, 1) := by decide +kernel
theorem dX11_inLine_54 : decode cX11_inLine 54 = .ok (.iload_n 2, 1) := by decide +kernel
theorem dX11_inLine_55 : decode cX11_inLine 55 = .ok (.bipush 21, 2) := by decide +kernel
theorem dX11_inLine_57 : decode cX11_inLine 57 = .ok (.invokevirtual 230, 3) := by decide +kernel
theorem dX11_inLine_60 : decode cX11_inLine 60 = .ok (.istore_n 2, 1) := by decide +kernel
theorem dX11_inLine_61 : decode cX11_inLine 61 = .ok (.iload 4, 2) := by decide +kernel
theorem dX11_inLine_63 : decode cX11_inLine 63 = .ok (.aload_n 0, 1) := by decide +kernel
theorem dX11_inLine_64 : decode cX11_inLine 64 = .ok (.getfield 200, 3) := by decide +kernel
theorem dX11_inLine_67 : decode cX11_inLine 67 = .ok (.invokestatic 265, 3) := by decide +kernel
theorem dX11_inLine_70 : decode cX11_inLine 70 = .ok (.iadd, 1) := by decide +kernel
theorem dX11_inLine_71 : decode cX11_inLine 71 = .ok (.istore 4, 2) := by decide +kernel
theorem dX11_inLine_73 : decode cX11_inLine 73 = .ok (.iinc 3 1, 3) := by decide +kernel
theorem dX11_inLine_76 : decode cX11_inLine 76 = .ok (.goto (-41), 3) := by decide +kernel
theorem dX11_inLine_79 : decode cX11_inLine 79 = .ok (.bipush 7, 2) := by decide +kernel
theorem dX11_inLine_81 : decode cX11_inLine 81 = .ok (.aload_n 0, 1) := by decide +kernel
theorem dX11_inLine_82 : decode cX11_inLine 82 = .ok (.getfield 52, 3) := by decide +kernel
theorem dX11_inLine_85 : decode cX11_inLine 85 = .ok (.iconst 3, 1) := by decide +kernel
theorem dX11_inLine_86 : decode cX11_inLine 86 = .ok (.iload 5, 2) := by decide +kernel
theorem dX11_inLine_88 : decode cX11_inLine 88 = .ok (.imul, 1) := by decide +kernel
theorem dX11_inLine_89 : decode cX11_inLine 89 = .ok (.iaload, 1) := by decide +kernel
theorem dX11_inLine_90 : decode cX11_inLine 90 = .ok (.imul, 1) := by decide +kernel
theorem dX11_inLine_91 : decode cX11_inLine 91 = .ok (.aload_n 0, 1) := by decide +kernel
theorem dX11_inLine_92 : decode cX11_inLine 92 = .ok (.getfield 52, 3) := by decide +kernel
theorem dX11_inLine_95 : decode cX11_inLine 95 = .ok (.iconst 3, 1) := by decide +kernel
theorem dX11_inLine_96 : decode cX11_inLine 96 = .ok (.iload 5, 2) := by decide +kernel
theorem dX11_inLine_98 : decode cX11_inLine 98 = .ok (.imul, 1) := by decide +kernel
theorem dX11_inLine_99 : decode cX11_inLine 99 = .ok (.iconst 2, 1) := by decide +kernel
theorem dX11_inLine_100 : decode cX11_inLine 100 = .ok (.iadd, 1) := by decide +kernel
theorem dX11_inLine_101 : decode cX11_inLine 101 = .ok (.iaload, 1) := by decide +kernel
theorem dX11_inLine_102 : decode cX11_inLine 102 = .ok (.iadd, 1) := by decide +kernel
theorem dX11_inLine_103 : decode cX11_inLine 103 = .ok (.istore 6, 2) := by decide +kernel
theorem dX11_inLine_105 : decode cX11_inLine 105 = .ok (.aload_n 0, 1) := by decide +kernel
theorem dX11_inLine_106 : decode cX11_inLine 106 = .ok (.iload_n 2, 1) := by decide +kernel
theorem dX11_inLine_107 : decode cX11_inLine 107 = .ok (.iload 6, 2) := by decide +kernel
theorem dX11_inLine_109 : decode cX11_inLine 109 = .ok (.invokevirtual 227, 3) := by decide +kernel
theorem dX11_inLine_112 : decode cX11_inLine 112 = .ok (.ifCond .eq 23, 3) := by decide +kernel
theorem dX11_inLine_115 : decode cX11_inLine 115 = .ok (.aload_n 0, 1) := by decide +kernel
theorem dX11_inLine_116 : decode cX11_inLine 116 = .ok (.iload_n 2, 1) := by decide +kernel
theorem dX11_inLine_117 : decode cX11_inLine 117 = .ok (.iload 6, 2) := by decide +kernel
theorem dX11_inLine_119 : decode cX11_inLine 119 = .ok (.invokevirtual 230, 3) := by decide +kernel
theorem dX11_inLine_122 : decode cX11_inLine 122 = .ok (.istore_n 2, 1) := by decide +kernel
theorem dX11_inLine_123 : decode cX11_inLine 123 = .ok (.iload 4, 2) := by decide +kernel
theorem dX11_inLine_125 : decode cX11_inLine 125 = .ok (.aload_n 0, 1) := by decide +kernel
theorem dX11_inLine_126 : decode cX11_inLine 126 = .ok (.getfield 200, 3) := by decide +kernel
theorem dX11_inLine_129 : decode cX11_inLine 129 = .ok (.invokestatic 265, 3) := by decide +kernel
theorem dX11_inLine_132 : decode cX11_inLine 132 = .ok (.iadd, 1) := by decide +kernel
theorem dX11_inLine_133 : decode cX11_inLine 133 = .ok (.istore 4, 2) := by decide +kernel
theorem dX11_inLine_135 : decode cX11_inLine 135 = .ok (.iinc 5 1, 3) := by decide +kernel
theorem dX11_inLine_138 : decode cX11_inLine 138 = .ok (.goto (-112), 3) := by decide +kernel
theorem dX11_inLine_141 : decode cX11_inLine 141 = .ok (.iload_n 1, 1) := by decide +kernel
theorem dX11_inLine_142 : decode cX11_inLine 142 = .ok (.ifCond .ne 8, 3) := by decide +kernel
theorem dX11_inLine_145 : decode cX11_inLine 145 = .ok (.iload 4, 2) := by decide +kernel
theorem dX11_inLine_147 : decode cX11_inLine 147 = .ok (.goto 4, 3) := by decide +kernel
theorem dX11_inLine_150 : decode cX11_inLine 150 = .ok (.iload_n 3, 1) := by decide +kernel
theorem dX11_inLine_151 : decode cX11_inLine 151 = .ok (.ireturn, 1) := by decide +kernel
theorem dX11_tried_0 : decode cX11_tried 0 = .ok (.iload_n 1, 1) := by decide +kernel
theorem dX11_tried_1 : decode cX11_tried 1 = .ok (.iconst (-1), 1) := by decide +kernel
theorem dX11_tried_2 : decode cX11_tried 2 = .ok (.if_icmp .eq 11, 3) := by decide +kernel
theorem dX11_tried_5 : decode cX11_tried 5 = .ok (.aload_n 0, 1) := by decide +kernel
theorem dX11_tried_6 : decode cX11_tried 6 = .ok (.iload_n 1, 1) := by decide +kernel
theorem dX11_tried_7 : decode cX11_tried 7 = .ok (.invokevirtual 210, 3) := by decide +kernel
theorem dX11_tried_10 : decode cX11_tried 10 = .ok (.ifCond .eq 34, 3) := by decide +kernel
theorem dX11_tried_13 : decode cX11_tried 13 = .ok (.iload_n 2, 1) := by decide +kernel
theorem dX11_tried_14 : decode cX11_tried 14 = .ok (.i2l, 1) := by decide +kernel
theorem dX11_tried_15 : decode cX11_tried 15 = .ok (.lconst 0, 1) := by decide +kernel
theorem dX11_tried_16 : decode cX11_tried 16 = .ok (.iconst 1, 1) := by decide +kernel
theorem dX11_tried_17 : decode cX11_tried 17 = .ok (.aload_n 0, 1) := by decide +kernel
theorem dX11_tried_18 : decode cX11_tried 18 = .ok (.getfield 16, 3) := by decide +kernel
theorem dX11_tried_21 : decode cX11_tried 21 = .ok (.ishl, 1) := by decide +kernel
theorem dX11_tried_22 : decode cX11_tried 22 = .ok (.iconst 1, 1) := by decide +kernel
theorem dX11_tried_23 : decode cX11_tried 23 = .ok (.isub, 1) := by decide +kernel
theorem dX11_tried_24 : decode cX11_tried 24 = .ok (.i2l, 1) := by decide +kernel
theorem dX11_tried_25 : decode cX11_tried 25 = .ok (.invokestatic 60, 3) := by decide +kernel
theorem dX11_tried_28 : decode cX11_tried 28 = .ok (.ifCond .eq 16, 3) := by decide +kernel
theorem dX11_tried_31 : decode cX11_tried 31 = .ok (.iload 4, 2) := by decide +kernel
theorem dX11_tried_33 : decode cX11_tried 33 = .ok (.i2l, 1) := by decide +kernel
theorem dX11_tried_34 : decode cX11_tried 34 = .ok (.lconst 0, 1) := by decide +kernel
theorem dX11_tried_35 : decode cX11_tried 35 = .ok (.ldc2_w 220, 3) := by decide +kernel
theorem dX11_tried_38 : decode cX11_tried 38 = .ok (.invokestatic 60, 3) := by decide +kernel
theorem dX11_tried_41 : decode cX11_tried 41 = .ok (.ifCond .ne 6, 3) := by decide +kernel
theorem dX11_tried_44 : decode cX11_tried 44 = .ok (.bipush (-2), 2) := by decide +kernel
theorem dX11_tried_46 : decode cX11_tried 46 = .ok (.ireturn, 1) := by decide +kernel
theorem dX11_tried_47 : decode cX11_tried 47 = .ok (.iload_n 3, 1) := by decide +kernel
theorem dX11_tried_48 : decode cX11_tried 48 = .ok (.i2l, 1) := by decide +kernel
theorem dX11_tried_49 : decode cX11_tried 49 = .ok (.lconst 0, 1) := by decide +kernel
theorem dX11_tried_50 : decode cX11_tried 50 = .ok (.ldc2_w 222, 3) := by decide +kernel
theorem dX11_tried_53 : decode cX11_tried 53 = .ok (.invokestatic 60, 3) := by decide +kernel
theorem dX11_tried_56 : decode cX11_tried 56 = .ok (.ifCond .eq 14, 3) := by decide +kernel
theorem dX11_tried_59 : decode cX11_tried 59 = .ok (.iload 5, 2) := by decide +kernel
theorem dX11_tried_61 : decode cX11_tried 61 = .ok (.i2l, 1) := by decide +kernel
theorem dX11_tried_62 : decode cX11_tried 62 = .ok (.lconst 0, 1) := by decide +kernel
theorem dX11_tried_63 : decode cX11_tried 63 = .ok (.lconst 1, 1) := by decide +kernel
theorem dX11_tried_64 : decode cX11_tried 64 = .ok (.invokestatic 60, 3) := by decide +kernel
theorem dX11_tried_67 : decode cX11_tried 67 = .ok (.ifCond .ne 6, 3) := by decide +kernel
theorem dX11_tried_70 : decode cX11_tried 70 = .ok (.bipush (-3), 2) := by decide +kernel
theorem dX11_tried_72 : decode cX11_tried 72 = .ok (.ireturn, 1) := by decide +kernel
theorem dX11_tried_73 : decode cX11_tried 73 = .ok (.aload_n 0, 1) := by decide +kernel
theorem dX11_tried_74 : decode cX11_tried 74 = .ok (.getfield 171, 3) := by decide +kernel
theorem dX11_tried_77 : decode cX11_tried 77 = .ok (.bipush 8, 2) := by decide +kernel
theorem dX11_tried_79 : decode cX11_tried 79 = .ok (.if_icmp .ne 6, 3) := by decide +kernel
theorem dX11_tried_82 : decode cX11_tried 82 = .ok (.bipush (-5), 2) := by decide +kernel
theorem dX11_tried_84 : decode cX11_tried 84 = .ok (.ireturn, 1) := by decide +kernel
theorem dX11_tried_85 : decode cX11_tried 85 = .ok (.iconst 5, 1) := by decide +kernel
theorem dX11_tried_86 : decode cX11_tried 86 = .ok (.aload_n 0, 1) := by decide +kernel
theorem dX11_tried_87 : decode cX11_tried 87 = .ok (.getfield 171, 3) := by decide +kernel
theorem dX11_tried_90 : decode cX11_tried 90 = .ok (.imul, 1) := by decide +kernel
theorem dX11_tried_91 : decode cX11_tried 91 = .ok (.istore 6, 2) := by decide +kernel
theorem dX11_tried_93 : decode cX11_tried 93 = .ok (.aload_n 0, 1) := by decide +kernel
theorem dX11_tried_94 : decode cX11_tried 94 = .ok (.getfield 55, 3) := by decide +kernel
theorem dX11_tried_97 : decode cX11_tried 97 = .ok (.iload 6, 2) := by decide +kernel
theorem dX11_tried_99 : decode cX11_tried 99 = .ok (.iload_n 1, 1) := by decide +kernel
theorem dX11_tried_100 : decode cX11_tried 100 = .ok (.iastore, 1) := by decide +kernel
theorem dX11_tried_101 : decode cX11_tried 101 = .ok (.aload_n 0, 1) := by decide +kernel
theorem dX11_tried_102 : decode cX11_tried 102 = .ok (.getfield 55, 3) := by decide +kernel
theorem dX11_tried_105 : decode cX11_tried 105 = .ok (.iload 6, 2) := by decide +kernel
theorem dX11_tried_107 : decode cX11_tried 107 = .ok (.iconst 1, 1) := by decide +kernel
theorem dX11_tried_108 : decode cX11_tried 108 = .ok (.iadd, 1) := by decide +kernel
theorem dX11_tried_109 : decode cX11_tried 109 = .ok (.iload_n 2, 1) := by decide +kernel
theorem dX11_tried_110 : decode cX11_tried 110 = .ok (.iastore, 1) := by decide +kernel
theorem dX11_tried_111 : decode cX11_tried 111 = .ok (.aload_n 0, 1) := by decide +kernel
theorem dX11_tried_112 : decode cX11_tried 112 = .ok (.getfield 55, 3) := by decide +kernel
theorem dX11_tried_115 : decode cX11_tried 115 = .ok (.iload 6, 2) := by decide +kernel
theorem dX11_tried_117 : decode cX11_tried 117 = .ok (.iconst 2, 1) := by decide +kernel
theorem dX11_tried_118 : decode cX11_tried 118 = .ok (.iadd, 1) := by decide +kernel
theorem dX11_tried_119 : decode cX11_tried 119 = .ok (.iload_n 3, 1) := by decide +kernel
theorem dX11_tried_120 : decode cX11_tried 120 = .ok (.iastore, 1) := by decide +kernel
theorem dX11_tried_121 : decode cX11_tried 121 = .ok (.aload_n 0, 1) := by decide +kernel
theorem dX11_tried_122 : decode cX11_tried 122 = .ok (.getfield 55, 3) := by decide +kernel
theorem dX11_tried_125 : decode cX11_tried 125 = .ok (.iload 6, 2) := by decide +kernel
theorem dX11_tried_127 : decode cX11_tried 127 = .ok (.iconst 3, 1) := by decide +kernel
theorem dX11_tried_128 : decode cX11_tried 128 = .ok (.iadd, 1) := by decide +kernel
theorem dX11_tried_129 : decode cX11_tried 129 = .ok (.iload 4, 2) := by decide +kernel
theorem dX11_tried_131 : decode cX11_tried 131 = .ok (.iastore, 1) := by decide +kernel
theorem dX11_tried_132 : decode cX11_tried 132 = .ok (.aload_n 0, 1) := by decide +kernel
theorem dX11_tried_133 : decode cX11_tried 133 = .ok (.getfield 55, 3) := by decide +kernel
theorem dX11_tried_136 : decode cX11_tried 136 = .ok (.iload 6, 2) := by decide +kernel
theorem dX11_tried_138 : decode cX11_tried 138 = .ok (.iconst 4, 1) := by decide +kernel
theorem dX11_tried_139 : decode cX11_tried 139 = .ok (.iadd, 1) := by decide +kernel
theorem dX11_tried_140 : decode cX11_tried 140 = .ok (.iload 5, 2) := by decide +kernel
theorem dX11_tried_142 : decode cX11_tried 142 = .ok (.iastore, 1) := by decide +kernel
theorem dX11_tried_143 : decode cX11_tried 143 = .ok (.aload_n 0, 1) := by decide +kernel
theorem dX11_tried_144 : decode cX11_tried 144 = .ok (.dup, 1) := by decide +kernel
theorem dX11_tried_145 : decode cX11_tried 145 = .ok (.getfield 171, 3) := by decide +kernel
theorem dX11_tried_148 : decode cX11_tried 148 = .ok (.iconst 1, 1) := by decide +kernel
theorem dX11_tried_149 : decode cX11_tried 149 = .ok (.iadd, 1) := by decide +kernel
theorem dX11_tried_150 : decode cX11_tried 150 = .ok (.putfield 171, 3) := by decide +kernel
theorem dX11_tried_153 : decode cX11_tried 153 = .ok (.aload_n 0, 1) := by decide +kernel
theorem dX11_tried_154 : decode cX11_tried 154 = .ok (.getfield 171, 3) := by decide +kernel
theorem dX11_tried_157 : decode cX11_tried 157 = .ok (.ireturn, 1) := by decide +kernel
theorem dX11_forget_0 : decode cX11_forget 0 = .ok (.aload_n 0, 1) := by decide +kernel
theorem dX11_forget_1 : decode cX11_forget 1 = .ok (.getfield 171, 3) := by decide +kernel
theorem dX11_forget_4 : decode cX11_forget 4 = .ok (.istore_n 1, 1) := by decide +kernel
theorem dX11_forget_5 : decode cX11_forget 5 = .ok (.aload_n 0, 1) := by decide +kernel
theorem dX11_forget_6 : decode cX11_forget 6 = .ok (.iconst 0, 1) := by decide +kernel
theorem dX11_forget_7 : decode cX11_forget 7 = .ok (.putfield 171, 3) := by decide +kernel
theorem dX11_forget_10 : decode cX11_forget 10 = .ok (.iload_n 1, 1) := by decide +kernel
theorem dX11_forget_11 : decode cX11_forget 11 = .ok (.ireturn, 1) := by decide +kernel
theorem dX11_termMany_0 : decode cX11_termMany 0 = .ok (.iconst 2, 1) := by decide +kernel
theorem dX11_termMany_1 : decode cX11_termMany 1 = .ok (.aload_n 0, 1) := by decide +kernel
theorem dX11_termMany_2 : decode cX11_termMany 2 = .ok (.getfield 16, 3) := by decide +kernel
theorem dX11_termMany_5 : decode cX11_termMany 5 = .ok (.imul, 1) := by decide +kernel
theorem dX11_termMany_6 : decode cX11_termMany 6 = .ok (.bipush 11, 2) := by decide +kernel
theorem dX11_termMany_8 : decode cX11_termMany 8 = .ok (.iadd, 1) := by decide +kernel
theorem dX11_termMany_9 : decode cX11_termMany 9 = .ok (.ireturn, 1) := by decide +kernel
theorem dX11_termOf_0 : decode cX11_termOf 0 = .ok (.iload_n 1, 1) := by decide +kernel
theorem dX11_termOf_1 : decode cX11_termOf 1 = .ok (.iconst 2, 1) := by decide +kernel
theorem dX11_termOf_2 : decode cX11_termOf 2 = .ok (.aload_n 0, 1) := by decide +kernel
theorem dX11_termOf_3 : decode cX11_termOf 3 = .ok (.getfield 16, 3) := by decide +kernel
theorem dX11_termOf_6 : decode cX11_termOf 6 = .ok (.imul, 1) := by decide +kernel
theorem dX11_termOf_7 : decode cX11_termOf 7 = .ok (.isub, 1) := by decide +kernel
theorem dX11_termOf_8 : decode cX11_termOf 8 = .ok (.istore_n 2, 1) := by decide +kernel
theorem dX11_termOf_9 : decode cX11_termOf 9 = .ok (.iload_n 1, 1) := by decide +kernel
theorem dX11_termOf_10 : decode cX11_termOf 10 = .ok (.aload_n 0, 1) := by decide +kernel
theorem dX11_termOf_11 : decode cX11_termOf 11 = .ok (.getfield 16, 3) := by decide +kernel
theorem dX11_termOf_14 : decode cX11_termOf 14 = .ok (.if_icmp .ge 7, 3) := by decide +kernel
theorem dX11_termOf_17 : decode cX11_termOf 17 = .ok (.iconst 0, 1) := by decide +kernel
theorem dX11_termOf_18 : decode cX11_termOf 18 = .ok (.goto 33, 3) := by decide +kernel
theorem dX11_termOf_21 : decode cX11_termOf 21 = .ok (.iload_n 2, 1) := by decide +kernel
theorem dX11_termOf_22 : decode cX11_termOf 22 = .ok (.ifCond .ge 7, 3) := by decide +kernel
theorem dX11_termOf_25 : decode cX11_termOf 25 = .ok (.iconst 1, 1) := by decide +kernel
theorem dX11_termOf_26 : decode cX11_termOf 26 = .ok (.goto 25, 3) := by decide +kernel
theorem dX11_termOf_29 : decode cX11_termOf 29 = .ok (.iload_n 2, 1) := by decide +kernel
theorem dX11_termOf_30 : decode cX11_termOf 30 = .ok (.bipush 7, 2) := by decide +kernel
theorem dX11_termOf_32 : decode cX11_termOf 32 = .ok (.if_icmp .ge 7, 3) := by decide +kernel
theorem dX11_termOf_35 : decode cX11_termOf 35 = .ok (.iconst 2, 1) := by decide +kernel
theorem dX11_termOf_36 : decode cX11_termOf 36 = .ok (.goto 15, 3) := by decide +kernel
theorem dX11_termOf_39 : decode cX11_termOf 39 = .ok (.iload_n 2, 1) := by decide +kernel
theorem dX11_termOf_40 : decode cX11_termOf 40 = .ok (.bipush 9, 2) := by decide +kernel
theorem dX11_termOf_42 : decode cX11_termOf 42 = .ok (.if_icmp .ge 7, 3) := by decide +kernel
theorem dX11_termOf_45 : decode cX11_termOf 45 = .ok (.iconst 5, 1) := by decide +kernel
theorem dX11_termOf_46 : decode cX11_termOf 46 = .ok (.goto 5, 3) := by decide +kernel
theorem dX11_termOf_49 : decode cX11_termOf 49 = .ok (.bipush 6, 2) := by decide +kernel
theorem dX11_termOf_51 : decode cX11_termOf 51 = .ok (.ireturn, 1) := by decide +kernel
theorem dX11_numberOf_0 : decode cX11_numberOf 0 = .ok (.iload_n 1, 1) := by decide +kernel
theorem dX11_numberOf_1 : decode cX11_numberOf 1 = .ok (.iconst 2, 1) := by decide +kernel
theorem dX11_numberOf_2 : decode cX11_numberOf 2 = .ok (.aload_n 0, 1) := by decide +kernel
theorem dX11_numberOf_3 : decode cX11_numberOf 3 = .ok (.getfield 16, 3) := by decide +kernel
theorem dX11_numberOf_6 : decode cX11_numberOf 6 = .ok (.imul, 1) := by decide +kernel
theorem dX11_numberOf_7 : decode cX11_numberOf 7 = .ok (.isub, 1) := by decide +kernel
theorem dX11_numberOf_8 : decode cX11_numberOf 8 = .ok (.istore_n 2, 1) := by decide +kernel
theorem dX11_numberOf_9 : decode cX11_numberOf 9 = .ok (.iload_n 1, 1) := by decide +kernel
theorem dX11_numberOf_10 : decode cX11_numberOf 10 = .ok (.aload_n 0, 1) := by decide +kernel
theorem dX11_numberOf_11 : decode cX11_numberOf 11 = .ok (.getfield 16, 3) := by decide +kernel
theorem dX11_numberOf_14 : decode cX11_numberOf 14 = .ok (.if_icmp .ge 7, 3) := by decide +kernel
theorem dX11_numberOf_17 : decode cX11_numberOf 17 = .ok (.iload_n 1, 1) := by decide +kernel
theorem dX11_numberOf_18 : decode cX11_numberOf 18 = .ok (.goto 43, 3) := by decide +kernel
theorem dX11_numberOf_21 : decode cX11_numberOf 21 = .ok (.iload_n 2, 1) := by decide +kernel
theorem dX11_numberOf_22 : decode cX11_numberOf 22 = .ok (.ifCond .ge 12, 3) := by decide +kernel
theorem dX11_numberOf_25 : decode cX11_numberOf 25 = .ok (.iload_n 1, 1) := by decide +kernel
theorem dX11_numberOf_26 : decode cX11_numberOf 26 = .ok (.aload_n 0, 1) := by decide +kernel
theorem dX11_numberOf_27 : decode cX11_numberOf 27 = .ok (.getfield 16, 3) := by decide +kernel
theorem dX11_numberOf_30 : decode cX11_numberOf 30 = .ok (.isub, 1) := by decide +kernel
theorem dX11_numberOf_31 : decode cX11_numberOf 31 = .ok (.goto 30, 3) := by decide +kernel
theorem dX11_numberOf_34 : decode cX11_numberOf 34 = .ok (.iload_n 2, 1) := by decide +kernel
theorem dX11_numberOf_35 : decode cX11_numberOf 35 = .ok (.bipush 7, 2) := by decide +kernel
theorem dX11_numberOf_37 : decode cX11_numberOf 37 = .ok (.if_icmp .ge 7, 3) := by decide +kernel
theorem dX11_numberOf_40 : decode cX11_numberOf 40 = .ok (.iload_n 2, 1) := by decide +kernel
theorem dX11_numberOf_41 : decode cX11_numberOf 41 = .ok (.goto 20, 3) := by decide +kernel
theorem dX11_numberOf_44 : decode cX11_numberOf 44 = .ok (.iload_n 2, 1) := by decide +kernel
theorem dX11_numberOf_45 : decode cX11_numberOf 45 = .ok (.bipush 9, 2) := by decide +kernel
theorem dX11_numberOf_47 : decode cX11_numberOf 47 = .ok (.if_icmp .ge 10, 3) := by decide +kernel
theorem dX11_numberOf_50 : decode cX11_numberOf 50 = .ok (.iload_n 2, 1) := by decide +kernel
theorem dX11_numberOf_51 : decode cX11_numberOf 51 = .ok (.bipush 7, 2) := by decide +kernel
theorem dX11_numberOf_53 : decode cX11_numberOf 53 = .ok (.isub, 1) := by decide +kernel
theorem dX11_numberOf_54 : decode cX11_numberOf 54 = .ok (.goto 7, 3) := by decide +kernel
theorem dX11_numberOf_57 : decode cX11_numberOf 57 = .ok (.iload_n 2, 1) := by decide +kernel
theorem dX11_numberOf_58 : decode cX11_numberOf 58 = .ok (.bipush 9, 2) := by decide +kernel
theorem dX11_numberOf_60 : decode cX11_numberOf 60 = .ok (.isub, 1) := by decide +kernel
theorem dX11_numberOf_61 : decode cX11_numberOf 61 = .ok (.ireturn, 1) := by decide +kernel
theorem dX11_wasSo_0 : decode cX11_wasSo 0 = .ok (.aload_n 0, 1) := by decide +kernel
theorem dX11_wasSo_1 : decode cX11_wasSo 1 = .ok (.iload_n 1, 1) := by decide +kernel
theorem dX11_wasSo_2 : decode cX11_wasSo 2 = .ok (.invokevirtual 280, 3) := by decide +kernel
theorem dX11_wasSo_5 : decode cX11_wasSo 5 = .ok (.istore 6, 2) := by decide +kernel
theorem dX11_wasSo_7 : decode cX11_wasSo 7 = .ok (.aload_n 0, 1) := by decide +kernel
theorem dX11_wasSo_8 : decode cX11_wasSo 8 = .ok (.iload_n 1, 1) := by decide +kernel
theorem dX11_wasSo_9 : decode cX11_wasSo 9 = .ok (.invokevirtual 283, 3) := by decide +kernel
theorem dX11_wasSo_12 : decode cX11_wasSo 12 = .ok (.tableswitch 80 0 5 #[40, 52, 59, 80, 80, 72], 40) := by decide +kernel
theorem dX11_wasSo_52 : decode cX11_wasSo 52 = .ok (.iload_n 2, 1) := by decide +kernel
theorem dX11_wasSo_53 : decode cX11_wasSo 53 = .ok (.iload 6, 2) := by decide +kernel
theorem dX11_wasSo_55 : decode cX11_wasSo 55 = .ok (.if_icmp .ne 7, 3) := by decide +kernel
theorem dX11_wasSo_58 : decode cX11_wasSo 58 = .ok (.iconst 1, 1) := by decide +kernel
theorem dX11_wasSo_59 : decode cX11_wasSo 59 = .ok (.goto 4, 3) := by decide +kernel
theorem dX11_wasSo_62 : decode cX11_wasSo 62 = .ok (.iconst 0, 1) := by decide +kernel
theorem dX11_wasSo_63 : decode cX11_wasSo 63 = .ok (.ireturn, 1) := by decide +kernel
theorem dX11_wasSo_64 : decode cX11_wasSo 64 = .ok (.iload_n 3, 1) := by decide +kernel
theorem dX11_wasSo_65 : decode cX11_wasSo 65 = .ok (.iload 6, 2) := by decide +kernel
theorem dX11_wasSo_67 : decode cX11_wasSo 67 = .ok (.invokestatic 174, 3) := by decide +kernel
theorem dX11_wasSo_70 : decode cX11_wasSo 70 = .ok (.ireturn, 1) := by decide +kernel
theorem dX11_wasSo_71 : decode cX11_wasSo 71 = .ok (.iload 4, 2) := by decide +kernel
theorem dX11_wasSo_73 : decode cX11_wasSo 73 = .ok (.iload 6, 2) := by decide +kernel
theorem dX11_wasSo_75 : decode cX11_wasSo 75 = .ok (.if_icmp .ne 7, 3) := by decide +kernel
theorem dX11_wasSo_78 : decode cX11_wasSo 78 = .ok (.iconst 1, 1) := by decide +kernel
theorem dX11_wasSo_79 : decode cX11_wasSo 79 = .ok (.goto 4, 3) := by decide +kernel
theorem dX11_wasSo_82 : decode cX11_wasSo 82 = .ok (.iconst 0, 1) := by decide +kernel
theorem dX11_wasSo_83 : decode cX11_wasSo 83 = .ok (.ireturn, 1) := by decide +kernel
theorem dX11_wasSo_84 : decode cX11_wasSo 84 = .ok (.iload 5, 2) := by decide +kernel
theorem dX11_wasSo_86 : decode cX11_wasSo 86 = .ok (.iload 6, 2) := by decide +kernel
theorem dX11_wasSo_88 : decode cX11_wasSo 88 = .ok (.invokestatic 174, 3) := by decide +kernel
theorem dX11_wasSo_91 : decode cX11_wasSo 91 = .ok (.ireturn, 1) := by decide +kernel
theorem dX11_wasSo_92 : decode cX11_wasSo 92 = .ok (.iload 5, 2) := by decide +kernel
theorem dX11_wasSo_94 : decode cX11_wasSo 94 = .ok (.iload 6, 2) := by decide +kernel
theorem dX11_wasSo_96 : decode cX11_wasSo 96 = .ok (.invokestatic 174, 3) := by decide +kernel
theorem dX11_wasSo_99 : decode cX11_wasSo 99 = .ok (.ifCond .ne 7, 3) := by decide +kernel
theorem dX11_wasSo_102 : decode cX11_wasSo 102 = .ok (.iconst 1, 1) := by decide +kernel
theorem dX11_wasSo_103 : decode cX11_wasSo 103 = .ok (.goto 4, 3) := by decide +kernel
theorem dX11_wasSo_106 : decode cX11_wasSo 106 = .ok (.iconst 0, 1) := by decide +kernel
theorem dX11_wasSo_107 : decode cX11_wasSo 107 = .ok (.ireturn, 1) := by decide +kernel
theorem dX11_fits_0 : decode cX11_fits 0 = .ok (.iconst 1, 1) := by decide +kernel
theorem dX11_fits_1 : decode cX11_fits 1 = .ok (.istore_n 3, 1) := by decide +kernel
theorem dX11_fits_2 : decode cX11_fits 2 = .ok (.iconst 0, 1) := by decide +kernel
theorem dX11_fits_3 : decode cX11_fits 3 = .ok (.istore 4, 2) := by decide +kernel
theorem dX11_fits_5 : decode cX11_fits 5 = .ok (.iload 4, 2) := by decide +kernel
theorem dX11_fits_7 : decode cX11_fits 7 = .ok (.aload_n 0, 1) := by decide +kernel
theorem dX11_fits_8 : decode cX11_fits 8 = .ok (.getfield 171, 3) := by decide +kernel
theorem dX11_fits_11 : decode cX11_fits 11 = .ok (.if_icmp .ge 139, 3) := by decide +kernel
theorem dX11_fits_14 : decode cX11_fits 14 = .ok (.iconst 5, 1) := by decide +kernel
theorem dX11_fits_15 : decode cX11_fits 15 = .ok (.iload 4, 2) := by decide +kernel
theorem dX11_fits_17 : decode cX11_fits 17 = .ok (.imul, 1) := by decide +kernel
theorem dX11_fits_18 : decode cX11_fits 18 = .ok (.istore 5, 2) := by decide +kernel
theorem dX11_fits_20 : decode cX11_fits 20 = .ok (.aload_n 0, 1) := by decide +kernel
theorem dX11_fits_21 : decode cX11_fits 21 = .ok (.iload_n 1, 1) := by decide +kernel
theorem dX11_fits_22 : decode cX11_fits 22 = .ok (.aload_n 0, 1) := by decide +kernel
theorem dX11_fits_23 : decode cX11_fits 23 = .ok (.getfield 55, 3) := by decide +kernel
theorem dX11_fits_26 : decode cX11_fits 26 = .ok (.iload 5, 2) := by decide +kernel
theorem dX11_fits_28 : decode cX11_fits 28 = .ok (.iaload, 1) := by decide +kernel
theorem dX11_fits_29 : decode cX11_fits 29 = .ok (.aload_n 0, 1) := by decide +kernel
theorem dX11_fits_30 : decode cX11_fits 30 = .ok (.getfield 55, 3) := by decide +kernel
theorem dX11_fits_33 : decode cX11_fits 33 = .ok (.iload 5, 2) := by decide +kernel
theorem dX11_fits_35 : decode cX11_fits 35 = .ok (.iconst 1, 1) := by decide +kernel
theorem dX11_fits_36 : decode cX11_fits 36 = .ok (.iadd, 1) := by decide +kernel
theorem dX11_fits_37 : decode cX11_fits 37 = .ok (.iaload, 1) := by decide +kernel
theorem dX11_fits_38 : decode cX11_fits 38 = .ok (.aload_n 0, 1) := by decide +kernel
theorem dX11_fits_39 : decode cX11_fits 39 = .ok (.getfield 55, 3) := by decide +kernel
theorem dX11_fits_42 : decode cX11_fits 42 = .ok (.iload 5, 2) := by decide +kernel
theorem dX11_fits_44 : decode cX11_fits 44 = .ok (.iconst 2, 1) := by decide +kernel
theorem dX11_fits_45 : decode cX11_fits 45 = .ok (.iadd, 1) := by decide +kernel
theorem dX11_fits_46 : decode cX11_fits 46 = .ok (.iaload, 1) := by decide +kernel
theorem dX11_fits_47 : decode cX11_fits 47 = .ok (.aload_n 0, 1) := by decide +kernel
theorem dX11_fits_48 : decode cX11_fits 48 = .ok (.getfield 55, 3) := by decide +kernel
theorem dX11_fits_51 : decode cX11_fits 51 = .ok (.iload 5, 2) := by decide +kernel
theorem dX11_fits_53 : decode cX11_fits 53 = .ok (.iconst 3, 1) := by decide +kernel
theorem dX11_fits_54 : decode cX11_fits 54 = .ok (.iadd, 1) := by decide +kernel
theorem dX11_fits_55 : decode cX11_fits 55 = .ok (.iaload, 1) := by decide +kernel
theorem dX11_fits_56 : decode cX11_fits 56 = .ok (.invokevirtual 286, 3) := by decide +kernel
theorem dX11_fits_59 : decode cX11_fits 59 = .ok (.ifCond .eq 49, 3) := by decide +kernel
theorem dX11_fits_62 : decode cX11_fits 62 = .ok (.aload_n 0, 1) := by decide +kernel
theorem dX11_fits_63 : decode cX11_fits 63 = .ok (.iload_n 2, 1) := by decide +kernel
theorem dX11_fits_64 : decode cX11_fits 64 = .ok (.aload_n 0, 1) := by decide +kernel
theorem dX11_fits_65 : decode cX11_fits 65 = .ok (.getfield 55, 3) := by decide +kernel
theorem dX11_fits_68 : decode cX11_fits 68 = .ok (.iload 5, 2) := by decide +kernel
theorem dX11_fits_70 : decode cX11_fits 70 = .ok (.iaload, 1) := by decide +kernel
theorem dX11_fits_71 : decode cX11_fits 71 = .ok (.aload_n 0, 1) := by decide +kernel
theorem dX11_fits_72 : decode cX11_fits 72 = .ok (.getfield 55, 3) := by decide +kernel
theorem dX11_fits_75 : decode cX11_fits 75 = .ok (.iload 5, 2) := by decide +kernel
theorem dX11_fits_77 : decode cX11_fits 77 = .ok (.iconst 1, 1) := by decide +kernel
theorem dX11_fits_78 : decode cX11_fits 78 = .ok (.iadd, 1) := by decide +kernel
theorem dX11_fits_79 : decode cX11_fits 79 = .ok (.iaload, 1) := by decide +kernel
theorem dX11_fits_80 : decode cX11_fits 80 = .ok (.aload_n 0, 1) := by decide +kernel
theorem dX11_fits_81 : decode cX11_fits 81 = .ok (.getfield 55, 3) := by decide +kernel
theorem dX11_fits_84 : decode cX11_fits 84 = .ok (.iload 5, 2) := by decide +kernel
theorem dX11_fits_86 : decode cX11_fits 86 = .ok (.iconst 2, 1) := by decide +kernel
theorem dX11_fits_87 : decode cX11_fits 87 = .ok (.iadd, 1) := by decide +kernel
theorem dX11_fits_88 : decode cX11_fits 88 = .ok (.iaload, 1) := by decide +kernel
theorem dX11_fits_89 : decode cX11_fits 89 = .ok (.aload_n 0, 1) := by decide +kernel
theorem dX11_fits_90 : decode cX11_fits 90 = .ok (.getfield 55, 3) := by decide +kernel
theorem dX11_fits_93 : decode cX11_fits 93 = .ok (.iload 5, 2) := by decide +kernel
theorem dX11_fits_95 : decode cX11_fits 95 = .ok (.iconst 3, 1) := by decide +kernel
theorem dX11_fits_96 : decode cX11_fits 96 = .ok (.iadd, 1) := by decide +kernel
theorem dX11_fits_97 : decode cX11_fits 97 = .ok (.iaload, 1) := by decide +kernel
theorem dX11_fits_98 : decode cX11_fits 98 = .ok (.invokevirtual 286, 3) := by decide +kernel
theorem dX11_fits_101 : decode cX11_fits 101 = .ok (.ifCond .eq 7, 3) := by decide +kernel
theorem dX11_fits_104 : decode cX11_fits 104 = .ok (.iconst 1, 1) := by decide +kernel
theorem dX11_fits_105 : decode cX11_fits 105 = .ok (.goto 4, 3) := by decide +kernel
theorem dX11_fits_108 : decode cX11_fits 108 = .ok (.iconst 0, 1) := by decide +kernel
theorem dX11_fits_109 : decode cX11_fits 109 = .ok (.istore 6, 2) := by decide +kernel
theorem dX11_fits_111 : decode cX11_fits 111 = .ok (.iload_n 3, 1) := by decide +kernel
theorem dX11_fits_112 : decode cX11_fits 112 = .ok (.ifCond .eq 30, 3) := by decide +kernel
theorem dX11_fits_115 : decode cX11_fits 115 = .ok (.iload 6, 2) := by decide +kernel
theorem dX11_fits_117 : decode cX11_fits 117 = .ok (.aload_n 0, 1) := by decide +kernel
theorem dX11_fits_118 : decode cX11_fits 118 = .ok (.getfield 55, 3) := by decide +kernel
theorem dX11_fits_121 : decode cX11_fits 121 = .ok (.iload 5, 2) := by decide +kernel
theorem dX11_fits_123 : decode cX11_fits 123 = .ok (.iconst 4, 1) := by decide +kernel
theorem dX11_fits_124 : decode cX11_fits 124 = .ok (.iadd, 1) := by decide +kernel
theorem dX11_fits_125 : decode cX11_fits 125 = .ok (.iaload, 1) := by decide +kernel
theorem dX11_fits_126 : decode cX11_fits 126 = .ok (.iconst 1, 1) := by decide +kernel
theorem dX11_fits_127 : decode cX11_fits 127 = .ok (.if_icmp .ne 7, 3) := by decide +kernel
theorem dX11_fits_130 : decode cX11_fits 130 = .ok (.iconst 1, 1) := by decide +kernel
theorem dX11_fits_131 : decode cX11_fits 131 = .ok (.goto 4, 3) := by decide +kernel
theorem dX11_fits_134 : decode cX11_fits 134 = .ok (.iconst 0, 1) := by decide +kernel
theorem dX11_fits_135 : decode cX11_fits 135 = .ok (.if_icmp .ne 7, 3) := by decide +kernel
theorem dX11_fits_138 : decode cX11_fits 138 = .ok (.iconst 1, 1) := by decide +kernel
theorem dX11_fits_139 : decode cX11_fits 139 = .ok (.goto 4, 3) := by decide +kernel
theorem dX11_fits_142 : decode cX11_fits 142 = .ok (.iconst 0, 1) := by decide +kernel
theorem dX11_fits_143 : decode cX11_fits 143 = .ok (.istore_n 3, 1) := by decide +kernel
theorem dX11_fits_144 : decode cX11_fits 144 = .ok (.iinc 4 1, 3) := by decide +kernel
theorem dX11_fits_147 : decode cX11_fits 147 = .ok (.goto (-142), 3) := by decide +kernel
theorem dX11_fits_150 : decode cX11_fits 150 = .ok (.iload_n 3, 1) := by decide +kernel
theorem dX11_fits_151 : decode cX11_fits 151 = .ok (.ireturn, 1) := by decide +kernel
theorem dX11_mayBe_0 : decode cX11_mayBe 0 = .ok (.iload_n 1, 1) := by decide +kernel
theorem dX11_mayBe_1 : decode cX11_mayBe 1 = .ok (.i2l, 1) := by decide +kernel
theorem dX11_mayBe_2 : decode cX11_mayBe 2 = .ok (.lconst 0, 1) := by decide +kernel
theorem dX11_mayBe_3 : decode cX11_mayBe 3 = .ok (.ldc2_w 131, 3) := by decide +kernel
theorem dX11_mayBe_6 : decode cX11_mayBe 6 = .ok (.invokestatic 60, 3) := by decide +kernel
theorem dX11_mayBe_9 : decode cX11_mayBe 9 = .ok (.ifCond .ne 6, 3) := by decide +kernel
theorem dX11_mayBe_12 : decode cX11_mayBe 12 = .ok (.bipush (-3), 2) := by decide +kernel
theorem dX11_mayBe_14 : decode cX11_mayBe 14 = .ok (.ireturn, 1) := by decide +kernel
theorem dX11_mayBe_15 : decode cX11_mayBe 15 = .ok (.iconst 0, 1) := by decide +kernel
theorem dX11_mayBe_16 : decode cX11_mayBe 16 = .ok (.istore_n 2, 1) := by decide +kernel
theorem dX11_mayBe_17 : decode cX11_mayBe 17 = .ok (.iconst (-1), 1) := by decide +kernel
theorem dX11_mayBe_18 : decode cX11_mayBe 18 = .ok (.istore_n 3, 1) := by decide +kernel
theorem dX11_mayBe_19 : decode cX11_mayBe 19 = .ok (.aload_n 0, 1) := by decide +kernel
theorem dX11_mayBe_20 : decode cX11_mayBe 20 = .ok (.invokevirtual 290, 3) := by decide +kernel
theorem dX11_mayBe_23 : decode cX11_mayBe 23 = .ok (.istore 4, 2) := by decide +kernel
theorem dX11_mayBe_25 : decode cX11_mayBe 25 = .ok (.iconst 0, 1) := by decide +kernel
theorem dX11_mayBe_26 : decode cX11_mayBe 26 = .ok (.istore 5, 2) := by decide +kernel
theorem dX11_mayBe_28 : decode cX11_mayBe 28 = .ok (.iload 5, 2) := by decide +kernel
theorem dX11_mayBe_30 : decode cX11_mayBe 30 = .ok (.iload 4, 2) := by decide +kernel
theorem dX11_mayBe_32 : decode cX11_mayBe 32 = .ok (.if_icmp .ge 56, 3) := by decide +kernel
theorem dX11_mayBe_35 : decode cX11_mayBe 35 = .ok (.iload_n 2, 1) := by decide +kernel
theorem dX11_mayBe_36 : decode cX11_mayBe 36 = .ok (.ifCond .ne 25, 3) := by decide +kernel
theorem dX11_mayBe_39 : decode cX11_mayBe 39 = .ok (.aload_n 0, 1) := by decide +kernel
theorem dX11_mayBe_40 : decode cX11_mayBe 40 = .ok (.iload 5, 2) := by decide +kernel
theorem dX11_mayBe_42 : decode cX11_mayBe 42 = .ok (.iload 5, 2) := by decide +kernel
theorem dX11_mayBe_44 : decode cX11_mayBe 44 = .ok (.invokevirtual 293, 3) := by decide +kernel
theorem dX11_mayBe_47 : decode cX11_mayBe 47 = .ok (.ifCond .eq 14, 3) := by decide +kernel
theorem dX11_mayBe_50 : decode cX11_mayBe 50 = .ok (.bipush 20, 2) := by decide +kernel
theorem dX11_mayBe_52 : decode cX11_mayBe 52 = .ok (.iload 5, 2) := by decide +kernel
theorem dX11_mayBe_54 : decode cX11_mayBe 54 = .ok (.imul, 1) := by decide +kernel
theorem dX11_mayBe_55 : decode cX11_mayBe 55 = .ok (.iload 5, 2) := by decide +kernel
theorem dX11_mayBe_57 : decode cX11_mayBe 57 = .ok (.iadd, 1) := by decide +kernel
theorem dX11_mayBe_58 : decode cX11_mayBe 58 = .ok (.goto 4, 3) := by decide +kernel
theorem dX11_mayBe_61 : decode cX11_mayBe 61 = .ok (.iload_n 3, 1) := by decide +kernel
theorem dX11_mayBe_62 : decode cX11_mayBe 62 = .ok (.istore_n 3, 1) := by decide +kernel
theorem dX11_mayBe_63 : decode cX11_mayBe 63 = .ok (.iload_n 2, 1) := by decide +kernel
theorem dX11_mayBe_64 : decode cX11_mayBe 64 = .ok (.aload_n 0, 1) := by decide +kernel
theorem dX11_mayBe_65 : decode cX11_mayBe 65 = .ok (.iload 5, 2) := by decide +kernel
theorem dX11_mayBe_67 : decode cX11_mayBe 67 = .ok (.iload 5, 2) := by decide +kernel
theorem dX11_mayBe_69 : decode cX11_mayBe 69 = .ok (.invokevirtual 293, 3) := by decide +kernel
theorem dX11_mayBe_72 : decode cX11_mayBe 72 = .ok (.ifCond .eq 7, 3) := by decide +kernel
theorem dX11_mayBe_75 : decode cX11_mayBe 75 = .ok (.iconst 1, 1) := by decide +kernel
theorem dX11_mayBe_76 : decode cX11_mayBe 76 = .ok (.goto 4, 3) := by decide +kernel
theorem dX11_mayBe_79 : decode cX11_mayBe 79 = .ok (.iconst 0, 1) := by decide +kernel
theorem dX11_mayBe_80 : decode cX11_mayBe 80 = .ok (.iadd, 1) := by decide +kernel
theorem dX11_mayBe_81 : decode cX11_mayBe 81 = .ok (.istore_n 2, 1) := by decide +kernel
theorem dX11_mayBe_82 : decode cX11_mayBe 82 = .ok (.iinc 5 1, 3) := by decide +kernel
theorem dX11_mayBe_85 : decode cX11_mayBe 85 = .ok (.goto (-57), 3) := by decide +kernel
theorem dX11_mayBe_88 : decode cX11_mayBe 88 = .ok (.iconst 0, 1) := by decide +kernel
theorem dX11_mayBe_89 : decode cX11_mayBe 89 = .ok (.istore 5, 2) := by decide +kernel
theorem dX11_mayBe_91 : decode cX11_mayBe 91 = .ok (.iload 5, 2) := by decide +kernel
theorem dX11_mayBe_93 : decode cX11_mayBe 93 = .ok (.iload 4, 2) := by decide +kernel
theorem dX11_mayBe_95 : decode cX11_mayBe 95 = .ok (.if_icmp .ge 75, 3) := by decide +kernel
theorem dX11_mayBe_98 : decode cX11_mayBe 98 = .ok (.iload 5, 2) := by decide +kernel
theorem dX11_mayBe_100 : decode cX11_mayBe 100 = .ok (.iconst 1, 1) := by decide +kernel
theorem dX11_mayBe_101 : decode cX11_mayBe 101 = .ok (.iadd, 1) := by decide +kernel
theorem dX11_mayBe_102 : decode cX11_mayBe 102 = .ok (.istore 6, 2) := by decide +kernel
theorem dX11_mayBe_104 : decode cX11_mayBe 104 = .ok (.iload 6, 2) := by decide +kernel
theorem dX11_mayBe_106 : decode cX11_mayBe 106 = .ok (.iload 4, 2) := by decide +kernel
theorem dX11_mayBe_108 : decode cX11_mayBe 108 = .ok (.if_icmp .ge 56, 3) := by decide +kernel
theorem dX11_mayBe_111 : decode cX11_mayBe 111 = .ok (.iload_n 2, 1) := by decide +kernel
theorem dX11_mayBe_112 : decode cX11_mayBe 112 = .ok (.ifCond .ne 25, 3) := by decide +kernel
theorem dX11_mayBe_115 : decode cX11_mayBe 115 = .ok (.aload_n 0, 1) := by decide +kernel
theorem dX11_mayBe_116 : decode cX11_mayBe 116 = .ok (.iload 5, 2) := by decide +kernel
theorem dX11_mayBe_118 : decode cX11_mayBe 118 = .ok (.iload 6, 2) := by decide +kernel
theorem dX11_mayBe_120 : decode cX11_mayBe 120 = .ok (.invokevirtual 293, 3) := by decide +kernel
theorem dX11_mayBe_123 : decode cX11_mayBe 123 = .ok (.ifCond .eq 14, 3) := by decide +kernel
theorem dX11_mayBe_126 : decode cX11_mayBe 126 = .ok (.bipush 20, 2) := by decide +kernel
theorem dX11_mayBe_128 : decode cX11_mayBe 128 = .ok (.iload 5, 2) := by decide +kernel
theorem dX11_mayBe_130 : decode cX11_mayBe 130 = .ok (.imul, 1) := by decide +kernel
theorem dX11_mayBe_131 : decode cX11_mayBe 131 = .ok (.iload 6, 2) := by decide +kernel
theorem dX11_mayBe_133 : decode cX11_mayBe 133 = .ok (.iadd, 1) := by decide +kernel
theorem dX11_mayBe_134 : decode cX11_mayBe 134 = .ok (.goto 4, 3) := by decide +kernel
theorem dX11_mayBe_137 : decode cX11_mayBe 137 = .ok (.iload_n 3, 1) := by decide +kernel
theorem dX11_mayBe_138 : decode cX11_mayBe 138 = .ok (.istore_n 3, 1) := by decide +kernel
theorem dX11_mayBe_139 : decode cX11_mayBe 139 = .ok (.iload_n 2, 1) := by decide +kernel
theorem dX11_mayBe_140 : decode cX11_mayBe 140 = .ok (.aload_n 0, 1) := by decide +kernel
theorem dX11_mayBe_141 : decode cX11_mayBe 141 = .ok (.iload 5, 2) := by decide +kernel
theorem dX11_mayBe_143 : decode cX11_mayBe 143 = .ok (.iload 6, 2) := by decide +kernel
theorem dX11_mayBe_145 : decode cX11_mayBe 145 = .ok (.invokevirtual 293, 3) := by decide +kernel
theorem dX11_mayBe_148 : decode cX11_mayBe 148 = .ok (.ifCond .eq 7, 3) := by decide +kernel
theorem dX11_mayBe_151 : decode cX11_mayBe 151 = .ok (.iconst 1, 1) := by decide +kernel
theorem dX11_mayBe_152 : decode cX11_mayBe 152 = .ok (.goto 4, 3) := by decide +kernel
theorem dX11_mayBe_155 : decode cX11_mayBe 155 = .ok (.iconst 0, 1) := by decide +kernel
theorem dX11_mayBe_156 : decode cX11_mayBe 156 = .ok (.iadd, 1) := by decide +kernel
theorem dX11_mayBe_157 : decode cX11_mayBe 157 = .ok (.istore_n 2, 1) := by decide +kernel
theorem dX11_mayBe_158 : decode cX11_mayBe 158 = .ok (.iinc 6 1, 3) := by decide +kernel
theorem dX11_mayBe_161 : decode cX11_mayBe 161 = .ok (.goto (-57), 3) := by decide +kernel
theorem dX11_mayBe_164 : decode cX11_mayBe 164 = .ok (.iinc 5 1, 3) := by decide +kernel
theorem dX11_mayBe_167 : decode cX11_mayBe 167 = .ok (.goto (-76), 3) := by decide +kernel
theorem dX11_mayBe_170 : decode cX11_mayBe 170 = .ok (.iload_n 1, 1) := by decide +kernel
theorem dX11_mayBe_171 : decode cX11_mayBe 171 = .ok (.ifCond .eq 7, 3) := by decide +kernel
theorem dX11_mayBe_174 : decode cX11_mayBe 174 = .ok (.iload_n 2, 1) := by decide +kernel
theorem dX11_mayBe_175 : decode cX11_mayBe 175 = .ok (.ifCond .ne 14, 3) := by decide +kernel
theorem dX11_mayBe_178 : decode cX11_mayBe 178 = .ok (.iload_n 1, 1) := by decide +kernel
theorem dX11_mayBe_179 : decode cX11_mayBe 179 = .ok (.ifCond .ne 7, 3) := by decide +kernel
theorem dX11_mayBe_182 : decode cX11_mayBe 182 = .ok (.iload_n 2, 1) := by decide +kernel
theorem dX11_mayBe_183 : decode cX11_mayBe 183 = .ok (.goto 5, 3) := by decide +kernel
theorem dX11_mayBe_186 : decode cX11_mayBe 186 = .ok (.bipush (-4), 2) := by decide +kernel
theorem dX11_mayBe_188 : decode cX11_mayBe 188 = .ok (.ireturn, 1) := by decide +kernel
theorem dX11_mayBe_189 : decode cX11_mayBe 189 = .ok (.iload_n 3, 1) := by decide +kernel
theorem dX11_mayBe_190 : decode cX11_mayBe 190 = .ok (.bipush 20, 2) := by decide +kernel
theorem dX11_mayBe_192 : decode cX11_mayBe 192 = .ok (.idiv, 1) := by decide +kernel
theorem dX11_mayBe_193 : decode cX11_mayBe 193 = .ok (.istore 5, 2) := by decide +kernel
theorem dX11_mayBe_195 : decode cX11_mayBe 195 = .ok (.iload_n 3, 1) := by decide +kernel
theorem dX11_mayBe_196 : decode cX11_mayBe 196 = .ok (.bipush 20, 2) := by decide +kernel
theorem dX11_mayBe_198 : decode cX11_mayBe 198 = .ok (.irem, 1) := by decide +kernel
theorem dX11_mayBe_199 : decode cX11_mayBe 199 = .ok (.istore 6, 2) := by decide +kernel
theorem dX11_mayBe_201 : decode cX11_mayBe 201 = .ok (.iload_n 1, 1) := by decide +kernel
theorem dX11_mayBe_202 : decode cX11_mayBe 202 = .ok (.iconst 1, 1) := by decide +kernel
theorem dX11_mayBe_203 : decode cX11_mayBe 203 = .ok (.if_icmp .ne 12, 3) := by decide +kernel
theorem dX11_mayBe_206 : decode cX11_mayBe 206 = .ok (.aload_n 0, 1) := by decide +kernel
theorem dX11_mayBe_207 : decode cX11_mayBe 207 = .ok (.iload 5, 2) := by decide +kernel
theorem dX11_mayBe_209 : decode cX11_mayBe 209 = .ok (.invokevirtual 283, 3) := by decide +kernel
theorem dX11_mayBe_212 : decode cX11_mayBe 212 = .ok (.goto 48, 3) := by decide +kernel
theorem dX11_mayBe_215 : decode cX11_mayBe 215 = .ok (.iload_n 1, 1) := by decide +kernel
theorem dX11_mayBe_216 : decode cX11_mayBe 216 = .ok (.iconst 2, 1) := by decide +kernel
theorem dX11_mayBe_217 : decode cX11_mayBe 217 = .ok (.if_icmp .ne 12, 3) := by decide +kernel
theorem dX11_mayBe_220 : decode cX11_mayBe 220 = .ok (.aload_n 0, 1) := by decide +kernel
theorem dX11_mayBe_221 : decode cX11_mayBe 221 = .ok (.iload 5, 2) := by decide +kernel
theorem dX11_mayBe_223 : decode cX11_mayBe 223 = .ok (.invokevirtual 280, 3) := by decide +kernel
theorem dX11_mayBe_226 : decode cX11_mayBe 226 = .ok (.goto 34, 3) := by decide +kernel
theorem dX11_mayBe_229 : decode cX11_mayBe 229 = .ok (.iload 5, 2) := by decide +kernel
theorem dX11_mayBe_231 : decode cX11_mayBe 231 = .ok (.iload 6, 2) := by decide +kernel
theorem dX11_mayBe_233 : decode cX11_mayBe 233 = .ok (.if_icmp .ne 7, 3) := by decide +kernel
theorem dX11_mayBe_236 : decode cX11_mayBe 236 = .ok (.iconst (-1), 1) := by decide +kernel
theorem dX11_mayBe_237 : decode cX11_mayBe 237 = .ok (.goto 23, 3) := by decide +kernel
theorem dX11_mayBe_240 : decode cX11_mayBe 240 = .ok (.iload_n 1, 1) := by decide +kernel
theorem dX11_mayBe_241 : decode cX11_mayBe 241 = .ok (.iconst 3, 1) := by decide +kernel
theorem dX11_mayBe_242 : decode cX11_mayBe 242 = .ok (.if_icmp .ne 12, 3) := by decide +kernel
theorem dX11_mayBe_245 : decode cX11_mayBe 245 = .ok (.aload_n 0, 1) := by decide +kernel
theorem dX11_mayBe_246 : decode cX11_mayBe 246 = .ok (.iload 6, 2) := by decide +kernel
theorem dX11_mayBe_248 : decode cX11_mayBe 248 = .ok (.invokevirtual 283, 3) := by decide +kernel
theorem dX11_mayBe_251 : decode cX11_mayBe 251 = .ok (.goto 9, 3) := by decide +kernel
theorem dX11_mayBe_254 : decode cX11_mayBe 254 = .ok (.aload_n 0, 1) := by decide +kernel
theorem dX11_mayBe_255 : decode cX11_mayBe 255 = .ok (.iload 6, 2) := by decide +kernel
theorem dX11_mayBe_257 : decode cX11_mayBe 257 = .ok (.invokevirtual 280, 3) := by decide +kernel
theorem dX11_mayBe_260 : decode cX11_mayBe 260 = .ok (.ireturn, 1) := by decide +kernel
theorem dX11_next_0 : decode cX11_next 0 = .ok (.iconst (-1), 1) := by decide +kernel
theorem dX11_next_1 : decode cX11_next 1 = .ok (.istore_n 1, 1) := by decide +kernel
theorem dX11_next_2 : decode cX11_next 2 = .ok (.sipush 999, 3) := by decide +kernel
theorem dX11_next_5 : decode cX11_next 5 = .ok (.istore_n 2, 1) := by decide +kernel
theorem dX11_next_6 : decode cX11_next 6 = .ok (.aload_n 0, 1) := by decide +kernel
theorem dX11_next_7 : decode cX11_next 7 = .ok (.invokevirtual 290, 3) := by decide +kernel
theorem dX11_next_10 : decode cX11_next 10 = .ok (.istore_n 3, 1) := by decide +kernel
theorem dX11_next_11 : decode cX11_next 11 = .ok (.iconst 0, 1) := by decide +kernel
theorem dX11_next_12 : decode cX11_next 12 = .ok (.istore 4, 2) := by decide +kernel
theorem dX11_next_14 : decode cX11_next 14 = .ok (.iload 4, 2) := by decide +kernel
theorem dX11_next_16 : decode cX11_next 16 = .ok (.bipush 7, 2) := by decide +kernel
theorem dX11_next_18 : decode cX11_next 18 = .ok (.if_icmp .ge 167, 3) := by decide +kernel
theorem dX11_next_21 : decode cX11_next 21 = .ok (.iconst 0, 1) := by decide +kernel
theorem dX11_next_22 : decode cX11_next 22 = .ok (.istore 5, 2) := by decide +kernel
theorem dX11_next_24 : decode cX11_next 24 = .ok (.iconst 0, 1) := by decide +kernel
theorem dX11_next_25 : decode cX11_next 25 = .ok (.istore 6, 2) := by decide +kernel
theorem dX11_next_27 : decode cX11_next 27 = .ok (.iconst 0, 1) := by decide +kernel
theorem dX11_next_28 : decode cX11_next 28 = .ok (.istore 7, 2) := by decide +kernel
theorem dX11_next_30 : decode cX11_next 30 = .ok (.iload 7, 2) := by decide +kernel
theorem dX11_next_32 : decode cX11_next 32 = .ok (.iload_n 3, 1) := by decide +kernel
theorem dX11_next_33 : decode cX11_next 33 = .ok (.if_icmp .ge 93, 3) := by decide +kernel
theorem dX11_next_36 : decode cX11_next 36 = .ok (.iload 7, 2) := by decide +kernel
theorem dX11_next_38 : decode cX11_next 38 = .ok (.istore 8, 2) := by decide +kernel
theorem dX11_next_40 : decode cX11_next 40 = .ok (.iload 8, 2) := by decide +kernel
theorem dX11_next_42 : decode cX11_next 42 = .ok (.iload_n 3, 1) := by decide +kernel
theorem dX11_next_43 : decode cX11_next 43 = .ok (.if_icmp .ge 77, 3) := by decide +kernel
theorem dX11_next_46 : decode cX11_next 46 = .ok (.aload_n 0, 1) := by decide +kernel
theorem dX11_next_47 : decode cX11_next 47 = .ok (.iload 7, 2) := by decide +kernel
theorem dX11_next_49 : decode cX11_next 49 = .ok (.iload 8, 2) := by decide +kernel
theorem dX11_next_51 : decode cX11_next 51 = .ok (.invokevirtual 293, 3) := by decide +kernel
theorem dX11_next_54 : decode cX11_next 54 = .ok (.istore 9, 2) := by decide +kernel
theorem dX11_next_56 : decode cX11_next 56 = .ok (.iload 6, 2) := by decide +kernel
theorem dX11_next_58 : decode cX11_next 58 = .ok (.iload 9, 2) := by decide +kernel
theorem dX11_next_60 : decode cX11_next 60 = .ok (.ifCond .eq 7, 3) := by decide +kernel
theorem dX11_next_63 : decode cX11_next 63 = .ok (.iconst 1, 1) := by decide +kernel
theorem dX11_next_64 : decode cX11_next 64 = .ok (.goto 4, 3) := by decide +kernel
theorem dX11_next_67 : decode cX11_next 67 = .ok (.iconst 0, 1) := by decide +kernel
theorem dX11_next_68 : decode cX11_next 68 = .ok (.iadd, 1) := by decide +kernel
theorem dX11_next_69 : decode cX11_next 69 = .ok (.istore 6, 2) := by decide +kernel
theorem dX11_next_71 : decode cX11_next 71 = .ok (.iload 5, 2) := by decide +kernel
theorem dX11_next_73 : decode cX11_next 73 = .ok (.iload 9, 2) := by decide +kernel
theorem dX11_next_75 : decode cX11_next 75 = .ok (.ifCond .eq 35, 3) := by decide +kernel
theorem dX11_next_78 : decode cX11_next 78 = .ok (.aload_n 0, 1) := by decide +kernel
theorem dX11_next_79 : decode cX11_next 79 = .ok (.iload 7, 2) := by decide +kernel
theorem dX11_next_81 : decode cX11_next 81 = .ok (.iconst (-1), 1) := by decide +kernel
theorem dX11_next_82 : decode cX11_next 82 = .ok (.iconst 0, 1) := by decide +kernel
theorem dX11_next_83 : decode cX11_next 83 = .ok (.iload 4, 2) := by decide +kernel
theorem dX11_next_85 : decode cX11_next 85 = .ok (.iconst 0, 1) := by decide +kernel
theorem dX11_next_86 : decode cX11_next 86 = .ok (.invokevirtual 286, 3) := by decide +kernel
theorem dX11_next_89 : decode cX11_next 89 = .ok (.ifCond .eq 21, 3) := by decide +kernel
theorem dX11_next_92 : decode cX11_next 92 = .ok (.aload_n 0, 1) := by decide +kernel
theorem dX11_next_93 : decode cX11_next 93 = .ok (.iload 8, 2) := by decide +kernel
theorem dX11_next_95 : decode cX11_next 95 = .ok (.iconst (-1), 1) := by decide +kernel
theorem dX11_next_96 : decode cX11_next 96 = .ok (.iconst 0, 1) := by decide +kernel
theorem dX11_next_97 : decode cX11_next 97 = .ok (.iload 4, 2) := by decide +kernel
theorem dX11_next_99 : decode cX11_next 99 = .ok (.iconst 0, 1) := by decide +kernel
theorem dX11_next_100 : decode cX11_next 100 = .ok (.invokevirtual 286, 3) := by decide +kernel
theorem dX11_next_103 : decode cX11_next 103 = .ok (.ifCond .eq 7, 3) := by decide +kernel
theorem dX11_next_106 : decode cX11_next 106 = .ok (.iconst 1, 1) := by decide +kernel
theorem dX11_next_107 : decode cX11_next 107 = .ok (.goto 4, 3) := by decide +kernel
theorem dX11_next_110 : decode cX11_next 110 = .ok (.iconst 0, 1) := by decide +kernel
theorem dX11_next_111 : decode cX11_next 111 = .ok (.iadd, 1) := by decide +kernel
theorem dX11_next_112 : decode cX11_next 112 = .ok (.istore 5, 2) := by decide +kernel
theorem dX11_next_114 : decode cX11_next 114 = .ok (.iinc 8 1, 3) := by decide +kernel
theorem dX11_next_117 : decode cX11_next 117 = .ok (.goto (-77), 3) := by decide +kernel
theorem dX11_next_120 : decode cX11_next 120 = .ok (.iinc 7 1, 3) := by decide +kernel
theorem dX11_next_123 : decode cX11_next 123 = .ok (.goto (-93), 3) := by decide +kernel
theorem dX11_next_126 : decode cX11_next 126 = .ok (.iload 5, 2) := by decide +kernel
theorem dX11_next_128 : decode cX11_next 128 = .ok (.iload 6, 2) := by decide +kernel
theorem dX11_next_130 : decode cX11_next 130 = .ok (.iload 5, 2) := by decide +kernel
theorem dX11_next_132 : decode cX11_next 132 = .ok (.isub, 1) := by decide +kernel
theorem dX11_next_133 : decode cX11_next 133 = .ok (.if_icmp .le 8, 3) := by decide +kernel
theorem dX11_next_136 : decode cX11_next 136 = .ok (.iload 5, 2) := by decide +kernel
theorem dX11_next_138 : decode cX11_next 138 = .ok (.goto 8, 3) := by decide +kernel
theorem dX11_next_141 : decode cX11_next 141 = .ok (.iload 6, 2) := by decide +kernel
theorem dX11_next_143 : decode cX11_next 143 = .ok (.iload 5, 2) := by decide +kernel
theorem dX11_next_145 : decode cX11_next 145 = .ok (.isub, 1) := by decide +kernel
theorem dX11_next_146 : decode cX11_next 146 = .ok (.istore 7, 2) := by decide +kernel
theorem dX11_next_148 : decode cX11_next 148 = .ok (.iload 6, 2) := by decide +kernel
theorem dX11_next_150 : decode cX11_next 150 = .ok (.ifCond .le 14, 3) := by decide +kernel
theorem dX11_next_153 : decode cX11_next 153 = .ok (.iload 7, 2) := by decide +kernel
theorem dX11_next_155 : decode cX11_next 155 = .ok (.iload_n 2, 1) := by decide +kernel
theorem dX11_next_156 : decode cX11_next 156 = .ok (.if_icmp .ge 8, 3) := by decide +kernel
theorem dX11_next_159 : decode cX11_next 159 = .ok (.iload 4, 2) := by decide +kernel
theorem dX11_next_161 : decode cX11_next 161 = .ok (.goto 4, 3) := by decide +kernel
theorem dX11_next_164 : decode cX11_next 164 = .ok (.iload_n 1, 1) := by decide +kernel
theorem dX11_next_165 : decode cX11_next 165 = .ok (.istore_n 1, 1) := by decide +kernel
theorem dX11_next_166 : decode cX11_next 166 = .ok (.iload 7, 2) := by decide +kernel
theorem dX11_next_168 : decode cX11_next 168 = .ok (.iload_n 2, 1) := by decide +kernel
theorem dX11_next_169 : decode cX11_next 169 = .ok (.if_icmp .ge 8, 3) := by decide +kernel
theorem dX11_next_172 : decode cX11_next 172 = .ok (.iload 7, 2) := by decide +kernel
theorem dX11_next_174 : decode cX11_next 174 = .ok (.goto 4, 3) := by decide +kernel
theorem dX11_next_177 : decode cX11_next 177 = .ok (.iload_n 2, 1) := by decide +kernel
theorem dX11_next_178 : decode cX11_next 178 = .ok (.istore_n 2, 1) := by decide +kernel
theorem dX11_next_179 : decode cX11_next 179 = .ok (.iinc 4 1, 3) := by decide +kernel
theorem dX11_next_182 : decode cX11_next 182 = .ok (.goto (-168), 3) := by decide +kernel
theorem dX11_next_185 : decode cX11_next 185 = .ok (.iload_n 1, 1) := by decide +kernel
theorem dX11_next_186 : decode cX11_next 186 = .ok (.ireturn, 1) := by decide +kernel
theorem dX11_count_0 : decode cX11_count 0 = .ok (.iload_n 1, 1) := by decide +kernel
theorem dX11_count_1 : decode cX11_count 1 = .ok (.tableswitch 147 0 12 #[67, 72, 77, 85, 93, 101, 109, 117, 122, 127, 132, 137, 142], 67) := by decide +kernel
theorem dX11_count_68 : decode cX11_count 68 = .ok (.aload_n 0, 1) := by decide +kernel
theorem dX11_count_69 : decode cX11_count 69 = .ok (.getfield 16, 3) := by decide +kernel
theorem dX11_count_72 : decode cX11_count 72 = .ok (.ireturn, 1) := by decide +kernel
theorem dX11_count_73 : decode cX11_count 73 = .ok (.aload_n 0, 1) := by decide +kernel
theorem dX11_count_74 : decode cX11_count 74 = .ok (.getfield 136, 3) := by decide +kernel
theorem dX11_count_77 : decode cX11_count 77 = .ok (.ireturn, 1) := by decide +kernel
theorem dX11_count_78 : decode cX11_count 78 = .ok (.aload_n 0, 1) := by decide +kernel
theorem dX11_count_79 : decode cX11_count 79 = .ok (.getfield 156, 3) := by decide +kernel
theorem dX11_count_82 : decode cX11_count 82 = .ok (.invokestatic 277, 3) := by decide +kernel
theorem dX11_count_85 : decode cX11_count 85 = .ok (.ireturn, 1) := by decide +kernel
theorem dX11_count_86 : decode cX11_count 86 = .ok (.aload_n 0, 1) := by decide +kernel
theorem dX11_count_87 : decode cX11_count 87 = .ok (.getfield 156, 3) := by decide +kernel
theorem dX11_count_90 : decode cX11_count 90 = .ok (.invokestatic 183, 3) := by decide +kernel
theorem dX11_count_93 : decode cX11_count 93 = .ok (.ireturn, 1) := by decide +kernel
theorem dX11_count_94 : decode cX11_count 94 = .ok (.aload_n 0, 1) := by decide +kernel
theorem dX11_count_95 : decode cX11_count 95 = .ok (.getfield 156, 3) := by decide +kernel
theorem dX11_count_98 : decode cX11_count 98 = .ok (.invokestatic 177, 3) := by decide +kernel
theorem dX11_count_101 : decode cX11_count 101 = .ok (.ireturn, 1) := by decide +kernel
theorem dX11_count_102 : decode cX11_count 102 = .ok (.aload_n 0, 1) := by decide +kernel
theorem dX11_count_103 : decode cX11_count 103 = .ok (.getfield 156, 3) := by decide +kernel
theorem dX11_count_106 : decode cX11_count 106 = .ok (.invokestatic 180, 3) := by decide +kernel
theorem dX11_count_109 : decode cX11_count 109 = .ok (.ireturn, 1) := by decide +kernel
theorem dX11_count_110 : decode cX11_count 110 = .ok (.aload_n 0, 1) := by decide +kernel
theorem dX11_count_111 : decode cX11_count 111 = .ok (.getfield 156, 3) := by decide +kernel
theorem dX11_count_114 : decode cX11_count 114 = .ok (.invokestatic 186, 3) := by decide +kernel
theorem dX11_count_117 : decode cX11_count 117 = .ok (.ireturn, 1) := by decide +kernel
theorem dX11_count_118 : decode cX11_count 118 = .ok (.aload_n 0, 1) := by decide +kernel
theorem dX11_count_119 : decode cX11_count 119 = .ok (.getfield 159, 3) := by decide +kernel
theorem dX11_count_122 : decode cX11_count 122 = .ok (.ireturn, 1) := by decide +kernel
theorem dX11_count_123 : decode cX11_count 123 = .ok (.aload_n 0, 1) := by decide +kernel
theorem dX11_count_124 : decode cX11_count 124 = .ok (.getfield 162, 3) := by decide +kernel
theorem dX11_count_127 : decode cX11_count 127 = .ok (.ireturn, 1) := by decide +kernel
theorem dX11_count_128 : decode cX11_count 128 = .ok (.aload_n 0, 1) := by decide +kernel
theorem dX11_count_129 : decode cX11_count 129 = .ok (.getfield 165, 3) := by decide +kernel
theorem dX11_count_132 : decode cX11_count 132 = .ok (.ireturn, 1) := by decide +kernel
theorem dX11_count_133 : decode cX11_count 133 = .ok (.aload_n 0, 1) := by decide +kernel
theorem dX11_count_134 : decode cX11_count 134 = .ok (.getfield 168, 3) := by decide +kernel
theorem dX11_count_137 : decode cX11_count 137 = .ok (.ireturn, 1) := by decide +kernel
theorem dX11_count_138 : decode cX11_count 138 = .ok (.aload_n 0, 1) := by decide +kernel
theorem dX11_count_139 : decode cX11_count 139 = .ok (.getfield 171, 3) := by decide +kernel
theorem dX11_count_142 : decode cX11_count 142 = .ok (.ireturn, 1) := by decide +kernel
theorem dX11_count_143 : decode cX11_count 143 = .ok (.aload_n 0, 1) := by decide +kernel
theorem dX11_count_144 : decode cX11_count 144 = .ok (.getfield 64, 3) := by decide +kernel
theorem dX11_count_147 : decode cX11_count 147 = .ok (.ireturn, 1) := by decide +kernel
theorem dX11_count_148 : decode cX11_count 148 = .ok (.bipush (-3), 2) := by decide +kernel
theorem dX11_count_150 : decode cX11_count 150 = .ok (.ireturn, 1) := by decide +kernel
