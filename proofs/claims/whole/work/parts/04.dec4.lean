theorem dX8_regret_38 : decode cX8_regret 38 = .ok (.iload_n 2, 1) := by decide +kernel
theorem dX8_regret_39 : decode cX8_regret 39 = .ok (.aload_n 0, 1) := by decide +kernel
theorem dX8_regret_40 : decode cX8_regret 40 = .ok (.iload_n 1, 1) := by decide +kernel
theorem dX8_regret_41 : decode cX8_regret 41 = .ok (.iconst 0, 1) := by decide +kernel
theorem dX8_regret_42 : decode cX8_regret 42 = .ok (.invokevirtual 316, 3) := by decide +kernel
theorem dX8_regret_45 : decode cX8_regret 45 = .ok (.isub, 1) := by decide +kernel
theorem dX8_regret_46 : decode cX8_regret 46 = .ok (.ireturn, 1) := by decide +kernel
theorem dX8_areSteady_0 : decode cX8_areSteady 0 = .ok (.aload_n 0, 1) := by decide +kernel
theorem dX8_areSteady_1 : decode cX8_areSteady 1 = .ok (.invokevirtual 285, 3) := by decide +kernel
theorem dX8_areSteady_4 : decode cX8_areSteady 4 = .ok (.iconst 1, 1) := by decide +kernel
theorem dX8_areSteady_5 : decode cX8_areSteady 5 = .ok (.istore_n 1, 1) := by decide +kernel
theorem dX8_areSteady_6 : decode cX8_areSteady 6 = .ok (.iconst 0, 1) := by decide +kernel
theorem dX8_areSteady_7 : decode cX8_areSteady 7 = .ok (.istore_n 2, 1) := by decide +kernel
theorem dX8_areSteady_8 : decode cX8_areSteady 8 = .ok (.iload_n 2, 1) := by decide +kernel
theorem dX8_areSteady_9 : decode cX8_areSteady 9 = .ok (.aload_n 0, 1) := by decide +kernel
theorem dX8_areSteady_10 : decode cX8_areSteady 10 = .ok (.getfield 7, 3) := by decide +kernel
theorem dX8_areSteady_13 : decode cX8_areSteady 13 = .ok (.iconst 4, 1) := by decide +kernel
theorem dX8_areSteady_14 : decode cX8_areSteady 14 = .ok (.iaload, 1) := by decide +kernel
theorem dX8_areSteady_15 : decode cX8_areSteady 15 = .ok (.if_icmp .ge 74, 3) := by decide +kernel
theorem dX8_areSteady_18 : decode cX8_areSteady 18 = .ok (.aload_n 0, 1) := by decide +kernel
theorem dX8_areSteady_19 : decode cX8_areSteady 19 = .ok (.iload_n 2, 1) := by decide +kernel
theorem dX8_areSteady_20 : decode cX8_areSteady 20 = .ok (.iconst 0, 1) := by decide +kernel
theorem dX8_areSteady_21 : decode cX8_areSteady 21 = .ok (.invokevirtual 217, 3) := by decide +kernel
theorem dX8_areSteady_24 : decode cX8_areSteady 24 = .ok (.iconst 3, 1) := by decide +kernel
theorem dX8_areSteady_25 : decode cX8_areSteady 25 = .ok (.if_icmp .ne 32, 3) := by decide +kernel
theorem dX8_areSteady_28 : decode cX8_areSteady 28 = .ok (.aload_n 0, 1) := by decide +kernel
theorem dX8_areSteady_29 : decode cX8_areSteady 29 = .ok (.iload_n 2, 1) := by decide +kernel
theorem dX8_areSteady_30 : decode cX8_areSteady 30 = .ok (.bipush 6, 2) := by decide +kernel
theorem dX8_areSteady_32 : decode cX8_areSteady 32 = .ok (.invokevirtual 217, 3) := by decide +kernel
theorem dX8_areSteady_35 : decode cX8_areSteady 35 = .ok (.aload_n 0, 1) := by decide +kernel
theorem dX8_areSteady_36 : decode cX8_areSteady 36 = .ok (.getfield 52, 3) := by decide +kernel
theorem dX8_areSteady_39 : decode cX8_areSteady 39 = .ok (.bipush 13, 2) := by decide +kernel
theorem dX8_areSteady_41 : decode cX8_areSteady 41 = .ok (.bipush 106, 2) := by decide +kernel
theorem dX8_areSteady_43 : decode cX8_areSteady 43 = .ok (.iload_n 2, 1) := by decide +kernel
theorem dX8_areSteady_44 : decode cX8_areSteady 44 = .ok (.imul, 1) := by decide +kernel
theorem dX8_areSteady_45 : decode cX8_areSteady 45 = .ok (.iadd, 1) := by decide +kernel
theorem dX8_areSteady_46 : decode cX8_areSteady 46 = .ok (.bipush 6, 2) := by decide +kernel
theorem dX8_areSteady_48 : decode cX8_areSteady 48 = .ok (.iadd, 1) := by decide +kernel
theorem dX8_areSteady_49 : decode cX8_areSteady 49 = .ok (.iaload, 1) := by decide +kernel
theorem dX8_areSteady_50 : decode cX8_areSteady 50 = .ok (.if_icmp .ne 7, 3) := by decide +kernel
theorem dX8_areSteady_53 : decode cX8_areSteady 53 = .ok (.iconst 1, 1) := by decide +kernel
theorem dX8_areSteady_54 : decode cX8_areSteady 54 = .ok (.goto 4, 3) := by decide +kernel
theorem dX8_areSteady_57 : decode cX8_areSteady 57 = .ok (.iconst 0, 1) := by decide +kernel
theorem dX8_areSteady_58 : decode cX8_areSteady 58 = .ok (.istore_n 3, 1) := by decide +kernel
theorem dX8_areSteady_59 : decode cX8_areSteady 59 = .ok (.iload_n 1, 1) := by decide +kernel
theorem dX8_areSteady_60 : decode cX8_areSteady 60 = .ok (.ifCond .eq 21, 3) := by decide +kernel
theorem dX8_areSteady_63 : decode cX8_areSteady 63 = .ok (.iload_n 3, 1) := by decide +kernel
theorem dX8_areSteady_64 : decode cX8_areSteady 64 = .ok (.ifCond .ne 13, 3) := by decide +kernel
theorem dX8_areSteady_67 : decode cX8_areSteady 67 = .ok (.aload_n 0, 1) := by decide +kernel
theorem dX8_areSteady_68 : decode cX8_areSteady 68 = .ok (.iload_n 2, 1) := by decide +kernel
theorem dX8_areSteady_69 : decode cX8_areSteady 69 = .ok (.iconst 0, 1) := by decide +kernel
theorem dX8_areSteady_70 : decode cX8_areSteady 70 = .ok (.invokevirtual 217, 3) := by decide +kernel
theorem dX8_areSteady_73 : decode cX8_areSteady 73 = .ok (.iconst 4, 1) := by decide +kernel
theorem dX8_areSteady_74 : decode cX8_areSteady 74 = .ok (.if_icmp .ne 7, 3) := by decide +kernel
theorem dX8_areSteady_77 : decode cX8_areSteady 77 = .ok (.iconst 1, 1) := by decide +kernel
theorem dX8_areSteady_78 : decode cX8_areSteady 78 = .ok (.goto 4, 3) := by decide +kernel
theorem dX8_areSteady_81 : decode cX8_areSteady 81 = .ok (.iconst 0, 1) := by decide +kernel
theorem dX8_areSteady_82 : decode cX8_areSteady 82 = .ok (.istore_n 1, 1) := by decide +kernel
theorem dX8_areSteady_83 : decode cX8_areSteady 83 = .ok (.iinc 2 1, 3) := by decide +kernel
theorem dX8_areSteady_86 : decode cX8_areSteady 86 = .ok (.goto (-78), 3) := by decide +kernel
theorem dX8_areSteady_89 : decode cX8_areSteady 89 = .ok (.aload_n 0, 1) := by decide +kernel
theorem dX8_areSteady_90 : decode cX8_areSteady 90 = .ok (.invokevirtual 288, 3) := by decide +kernel
theorem dX8_areSteady_93 : decode cX8_areSteady 93 = .ok (.iload_n 1, 1) := by decide +kernel
theorem dX8_areSteady_94 : decode cX8_areSteady 94 = .ok (.ireturn, 1) := by decide +kernel
theorem dX8_leastRate_0 : decode cX8_leastRate 0 = .ok (.aload_n 0, 1) := by decide +kernel
theorem dX8_leastRate_1 : decode cX8_leastRate 1 = .ok (.iconst 0, 1) := by decide +kernel
theorem dX8_leastRate_2 : decode cX8_leastRate 2 = .ok (.putfield 71, 3) := by decide +kernel
theorem dX8_leastRate_5 : decode cX8_leastRate 5 = .ok (.iconst (-1), 1) := by decide +kernel
theorem dX8_leastRate_6 : decode cX8_leastRate 6 = .ok (.istore_n 1, 1) := by decide +kernel
theorem dX8_leastRate_7 : decode cX8_leastRate 7 = .ok (.iconst 0, 1) := by decide +kernel
theorem dX8_leastRate_8 : decode cX8_leastRate 8 = .ok (.istore_n 2, 1) := by decide +kernel
theorem dX8_leastRate_9 : decode cX8_leastRate 9 = .ok (.iload_n 2, 1) := by decide +kernel
theorem dX8_leastRate_10 : decode cX8_leastRate 10 = .ok (.sipush 9900, 3) := by decide +kernel
theorem dX8_leastRate_13 : decode cX8_leastRate 13 = .ok (.if_icmp .gt 32, 3) := by decide +kernel
theorem dX8_leastRate_16 : decode cX8_leastRate 16 = .ok (.iload_n 1, 1) := by decide +kernel
theorem dX8_leastRate_17 : decode cX8_leastRate 17 = .ok (.iconst (-1), 1) := by decide +kernel
theorem dX8_leastRate_18 : decode cX8_leastRate 18 = .ok (.if_icmp .ne 27, 3) := by decide +kernel
theorem dX8_leastRate_21 : decode cX8_leastRate 21 = .ok (.aload_n 0, 1) := by decide +kernel
theorem dX8_leastRate_22 : decode cX8_leastRate 22 = .ok (.iload_n 2, 1) := by decide +kernel
theorem dX8_leastRate_23 : decode cX8_leastRate 23 = .ok (.putfield 43, 3) := by decide +kernel
theorem dX8_leastRate_26 : decode cX8_leastRate 26 = .ok (.aload_n 0, 1) := by decide +kernel
theorem dX8_leastRate_27 : decode cX8_leastRate 27 = .ok (.invokevirtual 320, 3) := by decide +kernel
theorem dX8_leastRate_30 : decode cX8_leastRate 30 = .ok (.ifCond .eq 7, 3) := by decide +kernel
theorem dX8_leastRate_33 : decode cX8_leastRate 33 = .ok (.iload_n 2, 1) := by decide +kernel
theorem dX8_leastRate_34 : decode cX8_leastRate 34 = .ok (.goto 4, 3) := by decide +kernel
theorem dX8_leastRate_37 : decode cX8_leastRate 37 = .ok (.iconst (-1), 1) := by decide +kernel
theorem dX8_leastRate_38 : decode cX8_leastRate 38 = .ok (.istore_n 1, 1) := by decide +kernel
theorem dX8_leastRate_39 : decode cX8_leastRate 39 = .ok (.iinc 2 100, 3) := by decide +kernel
theorem dX8_leastRate_42 : decode cX8_leastRate 42 = .ok (.goto (-33), 3) := by decide +kernel
theorem dX8_leastRate_45 : decode cX8_leastRate 45 = .ok (.aload_n 0, 1) := by decide +kernel
theorem dX8_leastRate_46 : decode cX8_leastRate 46 = .ok (.iconst (-1), 1) := by decide +kernel
theorem dX8_leastRate_47 : decode cX8_leastRate 47 = .ok (.putfield 43, 3) := by decide +kernel
theorem dX8_leastRate_50 : decode cX8_leastRate 50 = .ok (.iload_n 1, 1) := by decide +kernel
theorem dX8_leastRate_51 : decode cX8_leastRate 51 = .ok (.ireturn, 1) := by decide +kernel
theorem dX8_fairness_0 : decode cX8_fairness 0 = .ok (.aload_n 0, 1) := by decide +kernel
theorem dX8_fairness_1 : decode cX8_fairness 1 = .ok (.iconst 0, 1) := by decide +kernel
theorem dX8_fairness_2 : decode cX8_fairness 2 = .ok (.putfield 71, 3) := by decide +kernel
theorem dX8_fairness_5 : decode cX8_fairness 5 = .ok (.dconst 0, 1) := by decide +kernel
theorem dX8_fairness_6 : decode cX8_fairness 6 = .ok (.dstore_n 1, 1) := by decide +kernel
theorem dX8_fairness_7 : decode cX8_fairness 7 = .ok (.dconst 0, 1) := by decide +kernel
theorem dX8_fairness_8 : decode cX8_fairness 8 = .ok (.dstore_n 3, 1) := by decide +kernel
theorem dX8_fairness_9 : decode cX8_fairness 9 = .ok (.iconst 0, 1) := by decide +kernel
theorem dX8_fairness_10 : decode cX8_fairness 10 = .ok (.istore 5, 2) := by decide +kernel
theorem dX8_fairness_12 : decode cX8_fairness 12 = .ok (.iload 5, 2) := by decide +kernel
theorem dX8_fairness_14 : decode cX8_fairness 14 = .ok (.aload_n 0, 1) := by decide +kernel
theorem dX8_fairness_15 : decode cX8_fairness 15 = .ok (.getfield 7, 3) := by decide +kernel
theorem dX8_fairness_18 : decode cX8_fairness 18 = .ok (.iconst 4, 1) := by decide +kernel
theorem dX8_fairness_19 : decode cX8_fairness 19 = .ok (.iaload, 1) := by decide +kernel
theorem dX8_fairness_20 : decode cX8_fairness 20 = .ok (.if_icmp .ge 43, 3) := by decide +kernel
theorem dX8_fairness_23 : decode cX8_fairness 23 = .ok (.aload_n 0, 1) := by decide +kernel
theorem dX8_fairness_24 : decode cX8_fairness 24 = .ok (.iload 5, 2) := by decide +kernel
theorem dX8_fairness_26 : decode cX8_fairness 26 = .ok (.bipush 10, 2) := by decide +kernel
theorem dX8_fairness_28 : decode cX8_fairness 28 = .ok (.invokevirtual 217, 3) := by decide +kernel
theorem dX8_fairness_31 : decode cX8_fairness 31 = .ok (.i2d, 1) := by decide +kernel
theorem dX8_fairness_32 : decode cX8_fairness 32 = .ok (.aload_n 0, 1) := by decide +kernel
theorem dX8_fairness_33 : decode cX8_fairness 33 = .ok (.iload 5, 2) := by decide +kernel
theorem dX8_fairness_35 : decode cX8_fairness 35 = .ok (.bipush 13, 2) := by decide +kernel
theorem dX8_fairness_37 : decode cX8_fairness 37 = .ok (.invokevirtual 217, 3) := by decide +kernel
theorem dX8_fairness_40 : decode cX8_fairness 40 = .ok (.i2d, 1) := by decide +kernel
theorem dX8_fairness_41 : decode cX8_fairness 41 = .ok (.ddiv, 1) := by decide +kernel
theorem dX8_fairness_42 : decode cX8_fairness 42 = .ok (.dstore 6, 2) := by decide +kernel
theorem dX8_fairness_44 : decode cX8_fairness 44 = .ok (.dload_n 1, 1) := by decide +kernel
theorem dX8_fairness_45 : decode cX8_fairness 45 = .ok (.dload 6, 2) := by decide +kernel
theorem dX8_fairness_47 : decode cX8_fairness 47 = .ok (.dadd, 1) := by decide +kernel
theorem dX8_fairness_48 : decode cX8_fairness 48 = .ok (.dstore_n 1, 1) := by decide +kernel
theorem dX8_fairness_49 : decode cX8_fairness 49 = .ok (.dload_n 3, 1) := by decide +kernel
theorem dX8_fairness_50 : decode cX8_fairness 50 = .ok (.dload 6, 2) := by decide +kernel
theorem dX8_fairness_52 : decode cX8_fairness 52 = .ok (.dload 6, 2) := by decide +kernel
theorem dX8_fairness_54 : decode cX8_fairness 54 = .ok (.dmul, 1) := by decide +kernel
theorem dX8_fairness_55 : decode cX8_fairness 55 = .ok (.dadd, 1) := by decide +kernel
theorem dX8_fairness_56 : decode cX8_fairness 56 = .ok (.dstore_n 3, 1) := by decide +kernel
theorem dX8_fairness_57 : decode cX8_fairness 57 = .ok (.iinc 5 1, 3) := by decide +kernel
theorem dX8_fairness_60 : decode cX8_fairness 60 = .ok (.goto (-48), 3) := by decide +kernel
theorem dX8_fairness_63 : decode cX8_fairness 63 = .ok (.dload_n 3, 1) := by decide +kernel
theorem dX8_fairness_64 : decode cX8_fairness 64 = .ok (.dconst 0, 1) := by decide +kernel
theorem dX8_fairness_65 : decode cX8_fairness 65 = .ok (.dcmp .l, 1) := by decide +kernel
theorem dX8_fairness_66 : decode cX8_fairness 66 = .ok (.ifCond .ne 7, 3) := by decide +kernel
theorem dX8_fairness_69 : decode cX8_fairness 69 = .ok (.dconst 1, 1) := by decide +kernel
theorem dX8_fairness_70 : decode cX8_fairness 70 = .ok (.goto 16, 3) := by decide +kernel
theorem dX8_fairness_73 : decode cX8_fairness 73 = .ok (.dload_n 1, 1) := by decide +kernel
theorem dX8_fairness_74 : decode cX8_fairness 74 = .ok (.dload_n 1, 1) := by decide +kernel
theorem dX8_fairness_75 : decode cX8_fairness 75 = .ok (.dmul, 1) := by decide +kernel
theorem dX8_fairness_76 : decode cX8_fairness 76 = .ok (.aload_n 0, 1) := by decide +kernel
theorem dX8_fairness_77 : decode cX8_fairness 77 = .ok (.getfield 7, 3) := by decide +kernel
theorem dX8_fairness_80 : decode cX8_fairness 80 = .ok (.iconst 4, 1) := by decide +kernel
theorem dX8_fairness_81 : decode cX8_fairness 81 = .ok (.iaload, 1) := by decide +kernel
theorem dX8_fairness_82 : decode cX8_fairness 82 = .ok (.i2d, 1) := by decide +kernel
theorem dX8_fairness_83 : decode cX8_fairness 83 = .ok (.dload_n 3, 1) := by decide +kernel
theorem dX8_fairness_84 : decode cX8_fairness 84 = .ok (.dmul, 1) := by decide +kernel
theorem dX8_fairness_85 : decode cX8_fairness 85 = .ok (.ddiv, 1) := by decide +kernel
theorem dX8_fairness_86 : decode cX8_fairness 86 = .ok (.dreturn, 1) := by decide +kernel
theorem dX8_meanQuality_0 : decode cX8_meanQuality 0 = .ok (.aload_n 0, 1) := by decide +kernel
theorem dX8_meanQuality_1 : decode cX8_meanQuality 1 = .ok (.iload_n 1, 1) := by decide +kernel
theorem dX8_meanQuality_2 : decode cX8_meanQuality 2 = .ok (.invokevirtual 306, 3) := by decide +kernel
theorem dX8_meanQuality_5 : decode cX8_meanQuality 5 = .ok (.ifCond .eq 5, 3) := by decide +kernel
theorem dX8_meanQuality_8 : decode cX8_meanQuality 8 = .ok (.dconst 0, 1) := by decide +kernel
theorem dX8_meanQuality_9 : decode cX8_meanQuality 9 = .ok (.dreturn, 1) := by decide +kernel
theorem dX8_meanQuality_10 : decode cX8_meanQuality 10 = .ok (.aload_n 0, 1) := by decide +kernel
theorem dX8_meanQuality_11 : decode cX8_meanQuality 11 = .ok (.iload_n 1, 1) := by decide +kernel
theorem dX8_meanQuality_12 : decode cX8_meanQuality 12 = .ok (.iconst 2, 1) := by decide +kernel
theorem dX8_meanQuality_13 : decode cX8_meanQuality 13 = .ok (.invokevirtual 217, 3) := by decide +kernel
theorem dX8_meanQuality_16 : decode cX8_meanQuality 16 = .ok (.ifCond .ne 7, 3) := by decide +kernel
theorem dX8_meanQuality_19 : decode cX8_meanQuality 19 = .ok (.dconst 0, 1) := by decide +kernel
theorem dX8_meanQuality_20 : decode cX8_meanQuality 20 = .ok (.goto 19, 3) := by decide +kernel
theorem dX8_meanQuality_23 : decode cX8_meanQuality 23 = .ok (.aload_n 0, 1) := by decide +kernel
theorem dX8_meanQuality_24 : decode cX8_meanQuality 24 = .ok (.iload_n 1, 1) := by decide +kernel
theorem dX8_meanQuality_25 : decode cX8_meanQuality 25 = .ok (.bipush 9, 2) := by decide +kernel
theorem dX8_meanQuality_27 : decode cX8_meanQuality 27 = .ok (.invokevirtual 217, 3) := by decide +kernel
theorem dX8_meanQuality_30 : decode cX8_meanQuality 30 = .ok (.i2d, 1) := by decide +kernel
theorem dX8_meanQuality_31 : decode cX8_meanQuality 31 = .ok (.aload_n 0, 1) := by decide +kernel
theorem dX8_meanQuality_32 : decode cX8_meanQuality 32 = .ok (.iload_n 1, 1) := by decide +kernel
theorem dX8_meanQuality_33 : decode cX8_meanQuality 33 = .ok (.iconst 2, 1) := by decide +kernel
theorem dX8_meanQuality_34 : decode cX8_meanQuality 34 = .ok (.invokevirtual 217, 3) := by decide +kernel
theorem dX8_meanQuality_37 : decode cX8_meanQuality 37 = .ok (.i2d, 1) := by decide +kernel
theorem dX8_meanQuality_38 : decode cX8_meanQuality 38 = .ok (.ddiv, 1) := by decide +kernel
theorem dX8_meanQuality_39 : decode cX8_meanQuality 39 = .ok (.dreturn, 1) := by decide +kernel
theorem dX8_bytesTold_0 : decode cX8_bytesTold 0 = .ok (.aload_n 0, 1) := by decide +kernel
theorem dX8_bytesTold_1 : decode cX8_bytesTold 1 = .ok (.iload_n 1, 1) := by decide +kernel
theorem dX8_bytesTold_2 : decode cX8_bytesTold 2 = .ok (.iconst 3, 1) := by decide +kernel
theorem dX8_bytesTold_3 : decode cX8_bytesTold 3 = .ok (.invokevirtual 217, 3) := by decide +kernel
theorem dX8_bytesTold_6 : decode cX8_bytesTold 6 = .ok (.iconst (-1), 1) := by decide +kernel
theorem dX8_bytesTold_7 : decode cX8_bytesTold 7 = .ok (.if_icmp .ne 7, 3) := by decide +kernel
theorem dX8_bytesTold_10 : decode cX8_bytesTold 10 = .ok (.iconst 0, 1) := by decide +kernel
theorem dX8_bytesTold_11 : decode cX8_bytesTold 11 = .ok (.goto 27, 3) := by decide +kernel
theorem dX8_bytesTold_14 : decode cX8_bytesTold 14 = .ok (.aload_n 0, 1) := by decide +kernel
theorem dX8_bytesTold_15 : decode cX8_bytesTold 15 = .ok (.iload_n 1, 1) := by decide +kernel
theorem dX8_bytesTold_16 : decode cX8_bytesTold 16 = .ok (.aload_n 0, 1) := by decide +kernel
theorem dX8_bytesTold_17 : decode cX8_bytesTold 17 = .ok (.iload_n 1, 1) := by decide +kernel
theorem dX8_bytesTold_18 : decode cX8_bytesTold 18 = .ok (.iconst 2, 1) := by decide +kernel
theorem dX8_bytesTold_19 : decode cX8_bytesTold 19 = .ok (.invokevirtual 217, 3) := by decide +kernel
theorem dX8_bytesTold_22 : decode cX8_bytesTold 22 = .ok (.aload_n 0, 1) := by decide +kernel
theorem dX8_bytesTold_23 : decode cX8_bytesTold 23 = .ok (.iload_n 1, 1) := by decide +kernel
theorem dX8_bytesTold_24 : decode cX8_bytesTold 24 = .ok (.iconst 3, 1) := by decide +kernel
theorem dX8_bytesTold_25 : decode cX8_bytesTold 25 = .ok (.invokevirtual 217, 3) := by decide +kernel
theorem dX8_bytesTold_28 : decode cX8_bytesTold 28 = .ok (.invokevirtual 223, 3) := by decide +kernel
theorem dX8_bytesTold_31 : decode cX8_bytesTold 31 = .ok (.aload_n 0, 1) := by decide +kernel
theorem dX8_bytesTold_32 : decode cX8_bytesTold 32 = .ok (.iload_n 1, 1) := by decide +kernel
theorem dX8_bytesTold_33 : decode cX8_bytesTold 33 = .ok (.iconst 4, 1) := by decide +kernel
theorem dX8_bytesTold_34 : decode cX8_bytesTold 34 = .ok (.invokevirtual 217, 3) := by decide +kernel
theorem dX8_bytesTold_37 : decode cX8_bytesTold 37 = .ok (.isub, 1) := by decide +kernel
theorem dX8_bytesTold_38 : decode cX8_bytesTold 38 = .ok (.istore_n 2, 1) := by decide +kernel
theorem dX8_bytesTold_39 : decode cX8_bytesTold 39 = .ok (.iconst 0, 1) := by decide +kernel
theorem dX8_bytesTold_40 : decode cX8_bytesTold 40 = .ok (.istore_n 3, 1) := by decide +kernel
theorem dX8_bytesTold_41 : decode cX8_bytesTold 41 = .ok (.iload_n 3, 1) := by decide +kernel
theorem dX8_bytesTold_42 : decode cX8_bytesTold 42 = .ok (.aload_n 0, 1) := by decide +kernel
theorem dX8_bytesTold_43 : decode cX8_bytesTold 43 = .ok (.iload_n 1, 1) := by decide +kernel
theorem dX8_bytesTold_44 : decode cX8_bytesTold 44 = .ok (.iconst 2, 1) := by decide +kernel
theorem dX8_bytesTold_45 : decode cX8_bytesTold 45 = .ok (.invokevirtual 217, 3) := by decide +kernel
theorem dX8_bytesTold_48 : decode cX8_bytesTold 48 = .ok (.if_icmp .ge 29, 3) := by decide +kernel
theorem dX8_bytesTold_51 : decode cX8_bytesTold 51 = .ok (.iload_n 2, 1) := by decide +kernel
theorem dX8_bytesTold_52 : decode cX8_bytesTold 52 = .ok (.aload_n 0, 1) := by decide +kernel
theorem dX8_bytesTold_53 : decode cX8_bytesTold 53 = .ok (.iload_n 1, 1) := by decide +kernel
theorem dX8_bytesTold_54 : decode cX8_bytesTold 54 = .ok (.iload_n 3, 1) := by decide +kernel
theorem dX8_bytesTold_55 : decode cX8_bytesTold 55 = .ok (.aload_n 0, 1) := by decide +kernel
theorem dX8_bytesTold_56 : decode cX8_bytesTold 56 = .ok (.iload_n 1, 1) := by decide +kernel
theorem dX8_bytesTold_57 : decode cX8_bytesTold 57 = .ok (.bipush 15, 2) := by decide +kernel
theorem dX8_bytesTold_59 : decode cX8_bytesTold 59 = .ok (.iconst 3, 1) := by decide +kernel
theorem dX8_bytesTold_60 : decode cX8_bytesTold 60 = .ok (.iload_n 3, 1) := by decide +kernel
theorem dX8_bytesTold_61 : decode cX8_bytesTold 61 = .ok (.imul, 1) := by decide +kernel
theorem dX8_bytesTold_62 : decode cX8_bytesTold 62 = .ok (.iadd, 1) := by decide +kernel
theorem dX8_bytesTold_63 : decode cX8_bytesTold 63 = .ok (.invokevirtual 217, 3) := by decide +kernel
theorem dX8_bytesTold_66 : decode cX8_bytesTold 66 = .ok (.invokevirtual 223, 3) := by decide +kernel
theorem dX8_bytesTold_69 : decode cX8_bytesTold 69 = .ok (.iadd, 1) := by decide +kernel
theorem dX8_bytesTold_70 : decode cX8_bytesTold 70 = .ok (.istore_n 2, 1) := by decide +kernel
theorem dX8_bytesTold_71 : decode cX8_bytesTold 71 = .ok (.iinc 3 1, 3) := by decide +kernel
theorem dX8_bytesTold_74 : decode cX8_bytesTold 74 = .ok (.goto (-33), 3) := by decide +kernel
theorem dX8_bytesTold_77 : decode cX8_bytesTold 77 = .ok (.iload_n 2, 1) := by decide +kernel
theorem dX8_bytesTold_78 : decode cX8_bytesTold 78 = .ok (.ireturn, 1) := by decide +kernel
theorem dX8_isWhole_0 : decode cX8_isWhole 0 = .ok (.aload_n 0, 1) := by decide +kernel
theorem dX8_isWhole_1 : decode cX8_isWhole 1 = .ok (.iconst 0, 1) := by decide +kernel
theorem dX8_isWhole_2 : decode cX8_isWhole 2 = .ok (.putfield 71, 3) := by decide +kernel
theorem dX8_isWhole_5 : decode cX8_isWhole 5 = .ok (.iconst 0, 1) := by decide +kernel
theorem dX8_isWhole_6 : decode cX8_isWhole 6 = .ok (.istore_n 1, 1) := by decide +kernel
theorem dX8_isWhole_7 : decode cX8_isWhole 7 = .ok (.iconst 1, 1) := by decide +kernel
theorem dX8_isWhole_8 : decode cX8_isWhole 8 = .ok (.istore_n 2, 1) := by decide +kernel
theorem dX8_isWhole_9 : decode cX8_isWhole 9 = .ok (.iconst 0, 1) := by decide +kernel
theorem dX8_isWhole_10 : decode cX8_isWhole 10 = .ok (.istore_n 3, 1) := by decide +kernel
theorem dX8_isWhole_11 : decode cX8_isWhole 11 = .ok (.iload_n 3, 1) := by decide +kernel
theorem dX8_isWhole_12 : decode cX8_isWhole 12 = .ok (.aload_n 0, 1) := by decide +kernel
theorem dX8_isWhole_13 : decode cX8_isWhole 13 = .ok (.getfield 7, 3) := by decide +kernel
theorem dX8_isWhole_16 : decode cX8_isWhole 16 = .ok (.iconst 4, 1) := by decide +kernel
theorem dX8_isWhole_17 : decode cX8_isWhole 17 = .ok (.iaload, 1) := by decide +kernel
theorem dX8_isWhole_18 : decode cX8_isWhole 18 = .ok (.if_icmp .ge 73, 3) := by decide +kernel
theorem dX8_isWhole_21 : decode cX8_isWhole 21 = .ok (.iload_n 1, 1) := by decide +kernel
theorem dX8_isWhole_22 : decode cX8_isWhole 22 = .ok (.aload_n 0, 1) := by decide +kernel
theorem dX8_isWhole_23 : decode cX8_isWhole 23 = .ok (.iload_n 3, 1) := by decide +kernel
theorem dX8_isWhole_24 : decode cX8_isWhole 24 = .ok (.bipush 10, 2) := by decide +kernel
theorem dX8_isWhole_26 : decode cX8_isWhole 26 = .ok (.invokevirtual 217, 3) := by decide +kernel
theorem dX8_isWhole_29 : decode cX8_isWhole 29 = .ok (.iadd, 1) := by decide +kernel
theorem dX8_isWhole_30 : decode cX8_isWhole 30 = .ok (.istore_n 1, 1) := by decide +kernel
theorem dX8_isWhole_31 : decode cX8_isWhole 31 = .ok (.iload_n 2, 1) := by decide +kernel
theorem dX8_isWhole_32 : decode cX8_isWhole 32 = .ok (.ifCond .eq 51, 3) := by decide +kernel
theorem dX8_isWhole_35 : decode cX8_isWhole 35 = .ok (.aload_n 0, 1) := by decide +kernel
theorem dX8_isWhole_36 : decode cX8_isWhole 36 = .ok (.iload_n 3, 1) := by decide +kernel
theorem dX8_isWhole_37 : decode cX8_isWhole 37 = .ok (.invokevirtual 323, 3) := by decide +kernel
theorem dX8_isWhole_40 : decode cX8_isWhole 40 = .ok (.aload_n 0, 1) := by decide +kernel
theorem dX8_isWhole_41 : decode cX8_isWhole 41 = .ok (.iload_n 3, 1) := by decide +kernel
theorem dX8_isWhole_42 : decode cX8_isWhole 42 = .ok (.bipush 10, 2) := by decide +kernel
theorem dX8_isWhole_44 : decode cX8_isWhole 44 = .ok (.invokevirtual 217, 3) := by decide +kernel
theorem dX8_isWhole_47 : decode cX8_isWhole 47 = .ok (.if_icmp .ne 36, 3) := by decide +kernel
theorem dX8_isWhole_50 : decode cX8_isWhole 50 = .ok (.aload_n 0, 1) := by decide +kernel
theorem dX8_isWhole_51 : decode cX8_isWhole 51 = .ok (.iload_n 3, 1) := by decide +kernel
theorem dX8_isWhole_52 : decode cX8_isWhole 52 = .ok (.iconst 5, 1) := by decide +kernel
theorem dX8_isWhole_53 : decode cX8_isWhole 53 = .ok (.invokevirtual 217, 3) := by decide +kernel
theorem dX8_isWhole_56 : decode cX8_isWhole 56 = .ok (.aload_n 0, 1) := by decide +kernel
theorem dX8_isWhole_57 : decode cX8_isWhole 57 = .ok (.iload_n 3, 1) := by decide +kernel
theorem dX8_isWhole_58 : decode cX8_isWhole 58 = .ok (.iconst 1, 1) := by decide +kernel
theorem dX8_isWhole_59 : decode cX8_isWhole 59 = .ok (.invokevirtual 217, 3) := by decide +kernel
theorem dX8_isWhole_62 : decode cX8_isWhole 62 = .ok (.iadd, 1) := by decide +kernel
theorem dX8_isWhole_63 : decode cX8_isWhole 63 = .ok (.aload_n 0, 1) := by decide +kernel
theorem dX8_isWhole_64 : decode cX8_isWhole 64 = .ok (.iload_n 3, 1) := by decide +kernel
theorem dX8_isWhole_65 : decode cX8_isWhole 65 = .ok (.iconst 2, 1) := by decide +kernel
theorem dX8_isWhole_66 : decode cX8_isWhole 66 = .ok (.invokevirtual 217, 3) := by decide +kernel
theorem dX8_isWhole_69 : decode cX8_isWhole 69 = .ok (.aload_n 0, 1) := by decide +kernel
theorem dX8_isWhole_70 : decode cX8_isWhole 70 = .ok (.getfield 7, 3) := by decide +kernel
theorem dX8_isWhole_73 : decode cX8_isWhole 73 = .ok (.iconst 0, 1) := by decide +kernel
theorem dX8_isWhole_74 : decode cX8_isWhole 74 = .ok (.iaload, 1) := by decide +kernel
theorem dX8_isWhole_75 : decode cX8_isWhole 75 = .ok (.imul, 1) := by decide +kernel
theorem dX8_isWhole_76 : decode cX8_isWhole 76 = .ok (.if_icmp .ne 7, 3) := by decide +kernel
theorem dX8_isWhole_79 : decode cX8_isWhole 79 = .ok (.iconst 1, 1) := by decide +kernel
theorem dX8_isWhole_80 : decode cX8_isWhole 80 = .ok (.goto 4, 3) := by decide +kernel
theorem dX8_isWhole_83 : decode cX8_isWhole 83 = .ok (.iconst 0, 1) := by decide +kernel
theorem dX8_isWhole_84 : decode cX8_isWhole 84 = .ok (.istore_n 2, 1) := by decide +kernel
theorem dX8_isWhole_85 : decode cX8_isWhole 85 = .ok (.iinc 3 1, 3) := by decide +kernel
theorem dX8_isWhole_88 : decode cX8_isWhole 88 = .ok (.goto (-77), 3) := by decide +kernel
theorem dX8_isWhole_91 : decode cX8_isWhole 91 = .ok (.iload_n 2, 1) := by decide +kernel
theorem dX8_isWhole_92 : decode cX8_isWhole 92 = .ok (.ifCond .eq 18, 3) := by decide +kernel
theorem dX8_isWhole_95 : decode cX8_isWhole 95 = .ok (.iload_n 1, 1) := by decide +kernel
theorem dX8_isWhole_96 : decode cX8_isWhole 96 = .ok (.aload_n 0, 1) := by decide +kernel
theorem dX8_isWhole_97 : decode cX8_isWhole 97 = .ok (.getfield 17, 3) := by decide +kernel
theorem dX8_isWhole_100 : decode cX8_isWhole 100 = .ok (.bipush 9, 2) := by decide +kernel
theorem dX8_isWhole_102 : decode cX8_isWhole 102 = .ok (.iaload, 1) := by decide +kernel
theorem dX8_isWhole_103 : decode cX8_isWhole 103 = .ok (.if_icmp .ne 7, 3) := by decide +kernel
theorem dX8_isWhole_106 : decode cX8_isWhole 106 = .ok (.iconst 1, 1) := by decide +kernel
theorem dX8_isWhole_107 : decode cX8_isWhole 107 = .ok (.goto 4, 3) := by decide +kernel
theorem dX8_isWhole_110 : decode cX8_isWhole 110 = .ok (.iconst 0, 1) := by decide +kernel
theorem dX8_isWhole_111 : decode cX8_isWhole 111 = .ok (.ireturn, 1) := by decide +kernel
theorem dX8_account_0 : decode cX8_account 0 = .ok (.aload_n 0, 1) := by decide +kernel
theorem dX8_account_1 : decode cX8_account 1 = .ok (.iconst 0, 1) := by decide +kernel
theorem dX8_account_2 : decode cX8_account 2 = .ok (.putfield 71, 3) := by decide +kernel
theorem dX8_account_5 : decode cX8_account 5 = .ok (.aload_n 0, 1) := by decide +kernel
theorem dX8_account_6 : decode cX8_account 6 = .ok (.iload_n 1, 1) := by decide +kernel
theorem dX8_account_7 : decode cX8_account 7 = .ok (.iconst 0, 1) := by decide +kernel
theorem dX8_account_8 : decode cX8_account 8 = .ok (.iconst 3, 1) := by decide +kernel
theorem dX8_account_9 : decode cX8_account 9 = .ok (.invokestatic 95, 3) := by decide +kernel
theorem dX8_account_12 : decode cX8_account 12 = .ok (.ifCond .ne 7, 3) := by decide +kernel
theorem dX8_account_15 : decode cX8_account 15 = .ok (.iconst 1, 1) := by decide +kernel
theorem dX8_account_16 : decode cX8_account 16 = .ok (.goto 4, 3) := by decide +kernel
theorem dX8_account_19 : decode cX8_account 19 = .ok (.iconst 0, 1) := by decide +kernel
theorem dX8_account_20 : decode cX8_account 20 = .ok (.iconst 1, 1) := by decide +kernel
theorem dX8_account_21 : decode cX8_account 21 = .ok (.invokevirtual 194, 3) := by decide +kernel
theorem dX8_account_24 : decode cX8_account 24 = .ok (.ifCond .eq 7, 3) := by decide +kernel
theorem dX8_account_27 : decode cX8_account 27 = .ok (.iconst 0, 1) := by decide +kernel
theorem dX8_account_28 : decode cX8_account 28 = .ok (.goto 12, 3) := by decide +kernel
theorem dX8_account_31 : decode cX8_account 31 = .ok (.aload_n 0, 1) := by decide +kernel
theorem dX8_account_32 : decode cX8_account 32 = .ok (.getfield 17, 3) := by decide +kernel
theorem dX8_account_35 : decode cX8_account 35 = .ok (.bipush 9, 2) := by decide +kernel
theorem dX8_account_37 : decode cX8_account 37 = .ok (.iload_n 1, 1) := by decide +kernel
theorem dX8_account_38 : decode cX8_account 38 = .ok (.iadd, 1) := by decide +kernel
theorem dX8_account_39 : decode cX8_account 39 = .ok (.iaload, 1) := by decide +kernel
theorem dX8_account_40 : decode cX8_account 40 = .ok (.ireturn, 1) := by decide +kernel
theorem dX8_run_0 : decode cX8_run 0 = .ok (.aload_n 0, 1) := by decide +kernel
theorem dX8_run_1 : decode cX8_run 1 = .ok (.iconst 0, 1) := by decide +kernel
theorem dX8_run_2 : decode cX8_run 2 = .ok (.putfield 71, 3) := by decide +kernel
theorem dX8_run_5 : decode cX8_run 5 = .ok (.aload_n 0, 1) := by decide +kernel
theorem dX8_run_6 : decode cX8_run 6 = .ok (.iload_n 1, 1) := by decide +kernel
theorem dX8_run_7 : decode cX8_run 7 = .ok (.iconst 1, 1) := by decide +kernel
theorem dX8_run_8 : decode cX8_run 8 = .ok (.sipush 200, 3) := by decide +kernel
theorem dX8_run_11 : decode cX8_run 11 = .ok (.invokestatic 95, 3) := by decide +kernel
theorem dX8_run_14 : decode cX8_run 14 = .ok (.ifCond .ne 7, 3) := by decide +kernel
theorem dX8_run_17 : decode cX8_run 17 = .ok (.iconst 1, 1) := by decide +kernel
theorem dX8_run_18 : decode cX8_run 18 = .ok (.goto 4, 3) := by decide +kernel
theorem dX8_run_21 : decode cX8_run 21 = .ok (.iconst 0, 1) := by decide +kernel
theorem dX8_run_22 : decode cX8_run 22 = .ok (.iconst 1, 1) := by decide +kernel
theorem dX8_run_23 : decode cX8_run 23 = .ok (.invokevirtual 194, 3) := by decide +kernel
theorem dX8_run_26 : decode cX8_run 26 = .ok (.ifCond .ne 30, 3) := by decide +kernel
theorem dX8_run_29 : decode cX8_run 29 = .ok (.aload_n 0, 1) := by decide +kernel
theorem dX8_run_30 : decode cX8_run 30 = .ok (.aload_n 0, 1) := by decide +kernel
theorem dX8_run_31 : decode cX8_run 31 = .ok (.getfield 17, 3) := by decide +kernel
theorem dX8_run_34 : decode cX8_run 34 = .ok (.iconst 0, 1) := by decide +kernel
theorem dX8_run_35 : decode cX8_run 35 = .ok (.iaload, 1) := by decide +kernel
theorem dX8_run_36 : decode cX8_run 36 = .ok (.iload_n 1, 1) := by decide +kernel
theorem dX8_run_37 : decode cX8_run 37 = .ok (.iadd, 1) := by decide +kernel
theorem dX8_run_38 : decode cX8_run 38 = .ok (.sipush 2000, 3) := by decide +kernel
theorem dX8_run_41 : decode cX8_run 41 = .ok (.if_icmp .le 7, 3) := by decide +kernel
theorem dX8_run_44 : decode cX8_run 44 = .ok (.iconst 1, 1) := by decide +kernel
theorem dX8_run_45 : decode cX8_run 45 = .ok (.goto 4, 3) := by decide +kernel
theorem dX8_run_48 : decode cX8_run 48 = .ok (.iconst 0, 1) := by decide +kernel
theorem dX8_run_49 : decode cX8_run 49 = .ok (.iconst 2, 1) := by decide +kernel
theorem dX8_run_50 : decode cX8_run 50 = .ok (.invokevirtual 194, 3) := by decide +kernel
theorem dX8_run_53 : decode cX8_run 53 = .ok (.ifCond .eq 5, 3) := by decide +kernel
theorem dX8_run_56 : decode cX8_run 56 = .ok (.iconst 0, 1) := by decide +kernel
theorem dX8_run_57 : decode cX8_run 57 = .ok (.ireturn, 1) := by decide +kernel
theorem dX8_run_58 : decode cX8_run 58 = .ok (.aload_n 0, 1) := by decide +kernel
theorem dX8_run_59 : decode cX8_run 59 = .ok (.invokevirtual 326, 3) := by decide +kernel
theorem dX8_run_62 : decode cX8_run 62 = .ok (.iconst 0, 1) := by decide +kernel
theorem dX8_run_63 : decode cX8_run 63 = .ok (.istore_n 2, 1) := by decide +kernel
theorem dX8_run_64 : decode cX8_run 64 = .ok (.iload_n 2, 1) := by decide +kernel
theorem dX8_run_65 : decode cX8_run 65 = .ok (.iload_n 1, 1) := by decide +kernel
theorem dX8_run_66 : decode cX8_run 66 = .ok (.if_icmp .ge 13, 3) := by decide +kernel
theorem dX8_run_69 : decode cX8_run 69 = .ok (.aload_n 0, 1) := by decide +kernel
theorem dX8_run_70 : decode cX8_run 70 = .ok (.invokevirtual 282, 3) := by decide +kernel
theorem dX8_run_73 : decode cX8_run 73 = .ok (.iinc 2 1, 3) := by decide +kernel
theorem dX8_run_76 : decode cX8_run 76 = .ok (.goto (-12), 3) := by decide +kernel
theorem dX8_run_79 : decode cX8_run 79 = .ok (.aload_n 0, 1) := by decide +kernel
theorem dX8_run_80 : decode cX8_run 80 = .ok (.getfield 17, 3) := by decide +kernel
theorem dX8_run_83 : decode cX8_run 83 = .ok (.iconst 0, 1) := by decide +kernel
theorem dX8_run_84 : decode cX8_run 84 = .ok (.iaload, 1) := by decide +kernel
theorem dX8_run_85 : decode cX8_run 85 = .ok (.ireturn, 1) := by decide +kernel
theorem dX8_setRule_0 : decode cX8_setRule 0 = .ok (.aload_n 0, 1) := by decide +kernel
theorem dX8_setRule_1 : decode cX8_setRule 1 = .ok (.iload_n 1, 1) := by decide +kernel
theorem dX8_setRule_2 : decode cX8_setRule 2 = .ok (.invokevirtual 306, 3) := by decide +kernel
theorem dX8_setRule_5 : decode cX8_setRule 5 = .ok (.ifCond .ne 25, 3) := by decide +kernel
theorem dX8_setRule_8 : decode cX8_setRule 8 = .ok (.aload_n 0, 1) := by decide +kernel
theorem dX8_setRule_9 : decode cX8_setRule 9 = .ok (.iload_n 2, 1) := by decide +kernel
theorem dX8_setRule_10 : decode cX8_setRule 10 = .ok (.iconst 0, 1) := by decide +kernel
theorem dX8_setRule_11 : decode cX8_setRule 11 = .ok (.iconst 3, 1) := by decide +kernel
theorem dX8_setRule_12 : decode cX8_setRule 12 = .ok (.invokestatic 95, 3) := by decide +kernel
theorem dX8_setRule_15 : decode cX8_setRule 15 = .ok (.ifCond .ne 7, 3) := by decide +kernel
theorem dX8_setRule_18 : decode cX8_setRule 18 = .ok (.iconst 1, 1) := by decide +kernel
theorem dX8_setRule_19 : decode cX8_setRule 19 = .ok (.goto 4, 3) := by decide +kernel
theorem dX8_setRule_22 : decode cX8_setRule 22 = .ok (.iconst 0, 1) := by decide +kernel
theorem dX8_setRule_23 : decode cX8_setRule 23 = .ok (.iconst 2, 1) := by decide +kernel
theorem dX8_setRule_24 : decode cX8_setRule 24 = .ok (.invokevirtual 194, 3) := by decide +kernel
theorem dX8_setRule_27 : decode cX8_setRule 27 = .ok (.ifCond .eq 5, 3) := by decide +kernel
theorem dX8_setRule_30 : decode cX8_setRule 30 = .ok (.iconst 0, 1) := by decide +kernel
theorem dX8_setRule_31 : decode cX8_setRule 31 = .ok (.ireturn, 1) := by decide +kernel
theorem dX8_setRule_32 : decode cX8_setRule 32 = .ok (.aload_n 0, 1) := by decide +kernel
theorem dX8_setRule_33 : decode cX8_setRule 33 = .ok (.invokevirtual 326, 3) := by decide +kernel
theorem dX8_setRule_36 : decode cX8_setRule 36 = .ok (.aload_n 0, 1) := by decide +kernel
theorem dX8_setRule_37 : decode cX8_setRule 37 = .ok (.iload_n 1, 1) := by decide +kernel
theorem dX8_setRule_38 : decode cX8_setRule 38 = .ok (.bipush 12, 2) := by decide +kernel
theorem dX8_setRule_40 : decode cX8_setRule 40 = .ok (.invokevirtual 217, 3) := by decide +kernel
theorem dX8_setRule_43 : decode cX8_setRule 43 = .ok (.istore_n 3, 1) := by decide +kernel
theorem dX8_setRule_44 : decode cX8_setRule 44 = .ok (.aload_n 0, 1) := by decide +kernel
theorem dX8_setRule_45 : decode cX8_setRule 45 = .ok (.iload_n 1, 1) := by decide +kernel
theorem dX8_setRule_46 : decode cX8_setRule 46 = .ok (.bipush 12, 2) := by decide +kernel
theorem dX8_setRule_48 : decode cX8_setRule 48 = .ok (.iload_n 2, 1) := by decide +kernel
theorem dX8_setRule_49 : decode cX8_setRule 49 = .ok (.invokevirtual 206, 3) := by decide +kernel
theorem dX8_setRule_52 : decode cX8_setRule 52 = .ok (.iload_n 3, 1) := by decide +kernel
theorem dX8_setRule_53 : decode cX8_setRule 53 = .ok (.ireturn, 1) := by decide +kernel
theorem dX8_setWeight_0 : decode cX8_setWeight 0 = .ok (.aload_n 0, 1) := by decide +kernel
theorem dX8_setWeight_1 : decode cX8_setWeight 1 = .ok (.iload_n 1, 1) := by decide +kernel
theorem dX8_setWeight_2 : decode cX8_setWeight 2 = .ok (.invokevirtual 306, 3) := by decide +kernel
theorem dX8_setWeight_5 : decode cX8_setWeight 5 = .ok (.ifCond .ne 26, 3) := by decide +kernel
theorem dX8_setWeight_8 : decode cX8_setWeight 8 = .ok (.aload_n 0, 1) := by decide +kernel
theorem dX8_setWeight_9 : decode cX8_setWeight 9 = .ok (.iload_n 2, 1) := by decide +kernel
theorem dX8_setWeight_10 : decode cX8_setWeight 10 = .ok (.iconst 1, 1) := by decide +kernel
theorem dX8_setWeight_11 : decode cX8_setWeight 11 = .ok (.bipush 9, 2) := by decide +kernel
theorem dX8_setWeight_13 : decode cX8_setWeight 13 = .ok (.invokestatic 95, 3) := by decide +kernel
theorem dX8_setWeight_16 : decode cX8_setWeight 16 = .ok (.ifCond .ne 7, 3) := by decide +kernel
theorem dX8_setWeight_19 : decode cX8_setWeight 19 = .ok (.iconst 1, 1) := by decide +kernel
theorem dX8_setWeight_20 : decode cX8_setWeight 20 = .ok (.goto 4, 3) := by decide +kernel
theorem dX8_setWeight_23 : decode cX8_setWeight 23 = .ok (.iconst 0, 1) := by decide +kernel
theorem dX8_setWeight_24 : decode cX8_setWeight 24 = .ok (.iconst 2, 1) := by decide +kernel
theorem dX8_setWeight_25 : decode cX8_setWeight 25 = .ok (.invokevirtual 194, 3) := by decide +kernel
theorem dX8_setWeight_28 : decode cX8_setWeight 28 = .ok (.ifCond .eq 5, 3) := by decide +kernel
theorem dX8_setWeight_31 : decode cX8_setWeight 31 = .ok (.iconst 0, 1) := by decide +kernel
theorem dX8_setWeight_32 : decode cX8_setWeight 32 = .ok (.ireturn, 1) := by decide +kernel
theorem dX8_setWeight_33 : decode cX8_setWeight 33 = .ok (.aload_n 0, 1) := by decide +kernel
theorem dX8_setWeight_34 : decode cX8_setWeight 34 = .ok (.invokevirtual 326, 3) := by decide +kernel
theorem dX8_setWeight_37 : decode cX8_setWeight 37 = .ok (.aload_n 0, 1) := by decide +kernel
theorem dX8_setWeight_38 : decode cX8_setWeight 38 = .ok (.iload_n 1, 1) := by decide +kernel
theorem dX8_setWeight_39 : decode cX8_setWeight 39 = .ok (.bipush 13, 2) := by decide +kernel
theorem dX8_setWeight_41 : decode cX8_setWeight 41 = .ok (.invokevirtual 217, 3) := by decide +kernel
theorem dX8_setWeight_44 : decode cX8_setWeight 44 = .ok (.istore_n 3, 1) := by decide +kernel
theorem dX8_setWeight_45 : decode cX8_setWeight 45 = .ok (.aload_n 0, 1) := by decide +kernel
theorem dX8_setWeight_46 : decode cX8_setWeight 46 = .ok (.iload_n 1, 1) := by decide +kernel
theorem dX8_setWeight_47 : decode cX8_setWeight 47 = .ok (.bipush 13, 2) := by decide +kernel
theorem dX8_setWeight_49 : decode cX8_setWeight 49 = .ok (.iload_n 2, 1) := by decide +kernel
theorem dX8_setWeight_50 : decode cX8_setWeight 50 = .ok (.invokevirtual 206, 3) := by decide +kernel
theorem dX8_setWeight_53 : decode cX8_setWeight 53 = .ok (.iload_n 3, 1) := by decide +kernel
theorem dX8_setWeight_54 : decode cX8_setWeight 54 = .ok (.ireturn, 1) := by decide +kernel
theorem dX8_setRate_0 : decode cX8_setRate 0 = .ok (.aload_n 0, 1) := by decide +kernel
theorem dX8_setRate_1 : decode cX8_setRate 1 = .ok (.iconst 0, 1) := by decide +kernel
theorem dX8_setRate_2 : decode cX8_setRate 2 = .ok (.putfield 71, 3) := by decide +kernel
theorem dX8_setRate_5 : decode cX8_setRate 5 = .ok (.aload_n 0, 1) := by decide +kernel
theorem dX8_setRate_6 : decode cX8_setRate 6 = .ok (.iload_n 1, 1) := by decide +kernel
theorem dX8_setRate_7 : decode cX8_setRate 7 = .ok (.aload_n 0, 1) := by decide +kernel
theorem dX8_setRate_8 : decode cX8_setRate 8 = .ok (.getfield 7, 3) := by decide +kernel
theorem dX8_setRate_11 : decode cX8_setRate 11 = .ok (.iconst 5, 1) := by decide +kernel
theorem dX8_setRate_12 : decode cX8_setRate 12 = .ok (.iaload, 1) := by decide +kernel
theorem dX8_setRate_13 : decode cX8_setRate 13 = .ok (.invokevirtual 303, 3) := by decide +kernel
theorem dX8_setRate_16 : decode cX8_setRate 16 = .ok (.ifCond .ne 27, 3) := by decide +kernel
theorem dX8_setRate_19 : decode cX8_setRate 19 = .ok (.aload_n 0, 1) := by decide +kernel
theorem dX8_setRate_20 : decode cX8_setRate 20 = .ok (.iload_n 2, 1) := by decide +kernel
theorem dX8_setRate_21 : decode cX8_setRate 21 = .ok (.iconst 0, 1) := by decide +kernel
theorem dX8_setRate_22 : decode cX8_setRate 22 = .ok (.sipush 9999, 3) := by decide +kernel
theorem dX8_setRate_25 : decode cX8_setRate 25 = .ok (.invokestatic 95, 3) := by decide +kernel
theorem dX8_setRate_28 : decode cX8_setRate 28 = .ok (.ifCond .ne 7, 3) := by decide +kernel
theorem dX8_setRate_31 : decode cX8_setRate 31 = .ok (.iconst 1, 1) := by decide +kernel
theorem dX8_setRate_32 : decode cX8_setRate 32 = .ok (.goto 4, 3) := by decide +kernel
theorem dX8_setRate_35 : decode cX8_setRate 35 = .ok (.iconst 0, 1) := by decide +kernel
theorem dX8_setRate_36 : decode cX8_setRate 36 = .ok (.iconst 2, 1) := by decide +kernel
theorem dX8_setRate_37 : decode cX8_setRate 37 = .ok (.invokevirtual 194, 3) := by decide +kernel
theorem dX8_setRate_40 : decode cX8_setRate 40 = .ok (.ifCond .eq 5, 3) := by decide +kernel
theorem dX8_setRate_43 : decode cX8_setRate 43 = .ok (.iconst 0, 1) := by decide +kernel
theorem dX8_setRate_44 : decode cX8_setRate 44 = .ok (.ireturn, 1) := by decide +kernel
theorem dX8_setRate_45 : decode cX8_setRate 45 = .ok (.aload_n 0, 1) := by decide +kernel
theorem dX8_setRate_46 : decode cX8_setRate 46 = .ok (.invokevirtual 326, 3) := by decide +kernel
theorem dX8_setRate_49 : decode cX8_setRate 49 = .ok (.aload_n 0, 1) := by decide +kernel
theorem dX8_setRate_50 : decode cX8_setRate 50 = .ok (.getfield 17, 3) := by decide +kernel
theorem dX8_setRate_53 : decode cX8_setRate 53 = .ok (.iconst 1, 1) := by decide +kernel
theorem dX8_setRate_54 : decode cX8_setRate 54 = .ok (.iload_n 1, 1) := by decide +kernel
theorem dX8_setRate_55 : decode cX8_setRate 55 = .ok (.iadd, 1) := by decide +kernel
theorem dX8_setRate_56 : decode cX8_setRate 56 = .ok (.iaload, 1) := by decide +kernel
theorem dX8_setRate_57 : decode cX8_setRate 57 = .ok (.istore_n 3, 1) := by decide +kernel
theorem dX8_setRate_58 : decode cX8_setRate 58 = .ok (.aload_n 0, 1) := by decide +kernel
theorem dX8_setRate_59 : decode cX8_setRate 59 = .ok (.getfield 17, 3) := by decide +kernel
theorem dX8_setRate_62 : decode cX8_setRate 62 = .ok (.iconst 1, 1) := by decide +kernel
theorem dX8_setRate_63 : decode cX8_setRate 63 = .ok (.iload_n 1, 1) := by decide +kernel
theorem dX8_setRate_64 : decode cX8_setRate 64 = .ok (.iadd, 1) := by decide +kernel
theorem dX8_setRate_65 : decode cX8_setRate 65 = .ok (.iload_n 2, 1) := by decide +kernel
theorem dX8_setRate_66 : decode cX8_setRate 66 = .ok (.iastore, 1) := by decide +kernel
theorem dX8_setRate_67 : decode cX8_setRate 67 = .ok (.iload_n 3, 1) := by decide +kernel
theorem dX8_setRate_68 : decode cX8_setRate 68 = .ok (.ireturn, 1) := by decide +kernel
theorem dX8_quit_0 : decode cX8_quit 0 = .ok (.aload_n 0, 1) := by decide +kernel
theorem dX8_quit_1 : decode cX8_quit 1 = .ok (.iload_n 1, 1) := by decide +kernel
theorem dX8_quit_2 : decode cX8_quit 2 = .ok (.invokevirtual 306, 3) := by decide +kernel
theorem dX8_quit_5 : decode cX8_quit 5 = .ok (.ifCond .ne 26, 3) := by decide +kernel
theorem dX8_quit_8 : decode cX8_quit 8 = .ok (.aload_n 0, 1) := by decide +kernel
theorem dX8_quit_9 : decode cX8_quit 9 = .ok (.aload_n 0, 1) := by decide +kernel
theorem dX8_quit_10 : decode cX8_quit 10 = .ok (.iload_n 1, 1) := by decide +kernel
theorem dX8_quit_11 : decode cX8_quit 11 = .ok (.iconst 0, 1) := by decide +kernel
theorem dX8_quit_12 : decode cX8_quit 12 = .ok (.invokevirtual 217, 3) := by decide +kernel
theorem dX8_quit_15 : decode cX8_quit 15 = .ok (.iconst 3, 1) := by decide +kernel
theorem dX8_quit_16 : decode cX8_quit 16 = .ok (.if_icmp .lt 7, 3) := by decide +kernel
theorem dX8_quit_19 : decode cX8_quit 19 = .ok (.iconst 1, 1) := by decide +kernel
theorem dX8_quit_20 : decode cX8_quit 20 = .ok (.goto 4, 3) := by decide +kernel
theorem dX8_quit_23 : decode cX8_quit 23 = .ok (.iconst 0, 1) := by decide +kernel
theorem dX8_quit_24 : decode cX8_quit 24 = .ok (.iconst 2, 1) := by decide +kernel
theorem dX8_quit_25 : decode cX8_quit 25 = .ok (.invokevirtual 194, 3) := by decide +kernel
theorem dX8_quit_28 : decode cX8_quit 28 = .ok (.ifCond .eq 5, 3) := by decide +kernel
theorem dX8_quit_31 : decode cX8_quit 31 = .ok (.iconst 0, 1) := by decide +kernel
theorem dX8_quit_32 : decode cX8_quit 32 = .ok (.ireturn, 1) := by decide +kernel
theorem dX8_quit_33 : decode cX8_quit 33 = .ok (.aload_n 0, 1) := by decide +kernel
theorem dX8_quit_34 : decode cX8_quit 34 = .ok (.invokevirtual 326, 3) := by decide +kernel
theorem dX8_quit_37 : decode cX8_quit 37 = .ok (.aload_n 0, 1) := by decide +kernel
theorem dX8_quit_38 : decode cX8_quit 38 = .ok (.iload_n 1, 1) := by decide +kernel
theorem dX8_quit_39 : decode cX8_quit 39 = .ok (.iconst 0, 1) := by decide +kernel
theorem dX8_quit_40 : decode cX8_quit 40 = .ok (.iconst 4, 1) := by decide +kernel
theorem dX8_quit_41 : decode cX8_quit 41 = .ok (.invokevirtual 206, 3) := by decide +kernel
theorem dX8_quit_44 : decode cX8_quit 44 = .ok (.aload_n 0, 1) := by decide +kernel
theorem dX8_quit_45 : decode cX8_quit 45 = .ok (.iload_n 1, 1) := by decide +kernel
theorem dX8_quit_46 : decode cX8_quit 46 = .ok (.iconst 3, 1) := by decide +kernel
theorem dX8_quit_47 : decode cX8_quit 47 = .ok (.invokevirtual 217, 3) := by decide +kernel
theorem dX8_quit_50 : decode cX8_quit 50 = .ok (.iconst (-1), 1) := by decide +kernel
theorem dX8_quit_51 : decode cX8_quit 51 = .ok (.if_icmp .ne 7, 3) := by decide +kernel
theorem dX8_quit_54 : decode cX8_quit 54 = .ok (.iconst 0, 1) := by decide +kernel
theorem dX8_quit_55 : decode cX8_quit 55 = .ok (.goto 27, 3) := by decide +kernel
theorem dX8_quit_58 : decode cX8_quit 58 = .ok (.aload_n 0, 1) := by decide +kernel
theorem dX8_quit_59 : decode cX8_quit 59 = .ok (.iload_n 1, 1) := by decide +kernel
theorem dX8_quit_60 : decode cX8_quit 60 = .ok (.aload_n 0, 1) := by decide +kernel
theorem dX8_quit_61 : decode cX8_quit 61 = .ok (.iload_n 1, 1) := by decide +kernel
theorem dX8_quit_62 : decode cX8_quit 62 = .ok (.iconst 2, 1) := by decide +kernel
theorem dX8_quit_63 : decode cX8_quit 63 = .ok (.invokevirtual 217, 3) := by decide +kernel
theorem dX8_quit_66 : decode cX8_quit 66 = .ok (.aload_n 0, 1) := by decide +kernel
theorem dX8_quit_67 : decode cX8_quit 67 = .ok (.iload_n 1, 1) := by decide +kernel
theorem dX8_quit_68 : decode cX8_quit 68 = .ok (.iconst 3, 1) := by decide +kernel
theorem dX8_quit_69 : decode cX8_quit 69 = .ok (.invokevirtual 217, 3) := by decide +kernel
theorem dX8_quit_72 : decode cX8_quit 72 = .ok (.invokevirtual 223, 3) := by decide +kernel
theorem dX8_quit_75 : decode cX8_quit 75 = .ok (.aload_n 0, 1) := by decide +kernel
theorem dX8_quit_76 : decode cX8_quit 76 = .ok (.iload_n 1, 1) := by decide +kernel
theorem dX8_quit_77 : decode cX8_quit 77 = .ok (.iconst 4, 1) := by decide +kernel
theorem dX8_quit_78 : decode cX8_quit 78 = .ok (.invokevirtual 217, 3) := by decide +kernel
theorem dX8_quit_81 : decode cX8_quit 81 = .ok (.isub, 1) := by decide +kernel
theorem dX8_quit_82 : decode cX8_quit 82 = .ok (.ireturn, 1) := by decide +kernel
theorem dX8_copies_0 : decode cX8_copies 0 = .ok (.iconst 0, 1) := by decide +kernel
theorem dX8_copies_1 : decode cX8_copies 1 = .ok (.istore 4, 2) := by decide +kernel
theorem dX8_copies_3 : decode cX8_copies 3 = .ok (.iload 4, 2) := by decide +kernel
theorem dX8_copies_5 : decode cX8_copies 5 = .ok (.sipush 437, 3) := by decide +kernel
theorem dX8_copies_8 : decode cX8_copies 8 = .ok (.if_icmp .ge 21, 3) := by decide +kernel
theorem dX8_copies_11 : decode cX8_copies 11 = .ok (.aload_n 2, 1) := by decide +kernel
theorem dX8_copies_12 : decode cX8_copies 12 = .ok (.iload_n 3, 1) := by decide +kernel
theorem dX8_copies_13 : decode cX8_copies 13 = .ok (.iload 4, 2) := by decide +kernel
theorem dX8_copies_15 : decode cX8_copies 15 = .ok (.iadd, 1) := by decide +kernel
theorem dX8_copies_16 : decode cX8_copies 16 = .ok (.aload_n 0, 1) := by decide +kernel
theorem dX8_copies_17 : decode cX8_copies 17 = .ok (.iload_n 1, 1) := by decide +kernel
theorem dX8_copies_18 : decode cX8_copies 18 = .ok (.iload 4, 2) := by decide +kernel
theorem dX8_copies_20 : decode cX8_copies 20 = .ok (.iadd, 1) := by decide +kernel
theorem dX8_copies_21 : decode cX8_copies 21 = .ok (.iaload, 1) := by decide +kernel
theorem dX8_copies_22 : decode cX8_copies 22 = .ok (.iastore, 1) := by decide +kernel
theorem dX8_copies_23 : decode cX8_copies 23 = .ok (.iinc 4 1, 3) := by decide +kernel
theorem dX8_copies_26 : decode cX8_copies 26 = .ok (.goto (-23), 3) := by decide +kernel
theorem dX8_copies_29 : decode cX8_copies 29 = .ok (.return_, 1) := by decide +kernel
theorem dX8_keeps_0 : decode cX8_keeps 0 = .ok (.aload_n 0, 1) := by decide +kernel
theorem dX8_keeps_1 : decode cX8_keeps 1 = .ok (.getfield 210, 3) := by decide +kernel
theorem dX8_keeps_4 : decode cX8_keeps 4 = .ok (.bipush 10, 2) := by decide +kernel
theorem dX8_keeps_6 : decode cX8_keeps 6 = .ok (.if_icmp .ne 52, 3) := by decide +kernel
theorem dX8_keeps_9 : decode cX8_keeps 9 = .ok (.aload_n 0, 1) := by decide +kernel
theorem dX8_keeps_10 : decode cX8_keeps 10 = .ok (.dup, 1) := by decide +kernel
theorem dX8_keeps_11 : decode cX8_keeps 11 = .ok (.getfield 210, 3) := by decide +kernel
theorem dX8_keeps_14 : decode cX8_keeps 14 = .ok (.iconst 1, 1) := by decide +kernel
theorem dX8_keeps_15 : decode cX8_keeps 15 = .ok (.isub, 1) := by decide +kernel
theorem dX8_keeps_16 : decode cX8_keeps 16 = .ok (.putfield 210, 3) := by decide +kernel
theorem dX8_keeps_19 : decode cX8_keeps 19 = .ok (.iconst 0, 1) := by decide +kernel
theorem dX8_keeps_20 : decode cX8_keeps 20 = .ok (.istore_n 1, 1) := by decide +kernel
theorem dX8_keeps_21 : decode cX8_keeps 21 = .ok (.iload_n 1, 1) := by decide +kernel
theorem dX8_keeps_22 : decode cX8_keeps 22 = .ok (.aload_n 0, 1) := by decide +kernel
theorem dX8_keeps_23 : decode cX8_keeps 23 = .ok (.getfield 210, 3) := by decide +kernel
theorem dX8_keeps_26 : decode cX8_keeps 26 = .ok (.if_icmp .ge 32, 3) := by decide +kernel
theorem dX8_keeps_29 : decode cX8_keeps 29 = .ok (.aload_n 0, 1) := by decide +kernel
theorem dX8_keeps_30 : decode cX8_keeps 30 = .ok (.getfield 55, 3) := by decide +kernel
theorem dX8_keeps_33 : decode cX8_keeps 33 = .ok (.sipush 437, 3) := by decide +kernel
theorem dX8_keeps_36 : decode cX8_keeps 36 = .ok (.iload_n 1, 1) := by decide +kernel
theorem dX8_keeps_37 : decode cX8_keeps 37 = .ok (.iconst 1, 1) := by decide +kernel
theorem dX8_keeps_38 : decode cX8_keeps 38 = .ok (.iadd, 1) := by decide +kernel
theorem dX8_keeps_39 : decode cX8_keeps 39 = .ok (.imul, 1) := by decide +kernel
theorem dX8_keeps_40 : decode cX8_keeps 40 = .ok (.aload_n 0, 1) := by decide +kernel
theorem dX8_keeps_41 : decode cX8_keeps 41 = .ok (.getfield 55, 3) := by decide +kernel
theorem dX8_keeps_44 : decode cX8_keeps 44 = .ok (.sipush 437, 3) := by decide +kernel
theorem dX8_keeps_47 : decode cX8_keeps 47 = .ok (.iload_n 1, 1) := by decide +kernel
theorem dX8_keeps_48 : decode cX8_keeps 48 = .ok (.imul, 1) := by decide +kernel
theorem dX8_keeps_49 : decode cX8_keeps 49 = .ok (.invokestatic 275, 3) := by decide +kernel
theorem dX8_keeps_52 : decode cX8_keeps 52 = .ok (.iinc 1 1, 3) := by decide +kernel
theorem dX8_keeps_55 : decode cX8_keeps 55 = .ok (.goto (-34), 3) := by decide +kernel
theorem dX8_keeps_58 : decode cX8_keeps 58 = .ok (.aload_n 0, 1) := by decide +kernel
theorem dX8_keeps_59 : decode cX8_keeps 59 = .ok (.getfield 17, 3) := by decide +kernel
theorem dX8_keeps_62 : decode cX8_keeps 62 = .ok (.iconst 0, 1) := by decide +kernel
theorem dX8_keeps_63 : decode cX8_keeps 63 = .ok (.aload_n 0, 1) := by decide +kernel
theorem dX8_keeps_64 : decode cX8_keeps 64 = .ok (.getfield 55, 3) := by decide +kernel
theorem dX8_keeps_67 : decode cX8_keeps 67 = .ok (.sipush 437, 3) := by decide +kernel
theorem dX8_keeps_70 : decode cX8_keeps 70 = .ok (.aload_n 0, 1) := by decide +kernel
theorem dX8_keeps_71 : decode cX8_keeps 71 = .ok (.getfield 210, 3) := by decide +kernel
theorem dX8_keeps_74 : decode cX8_keeps 74 = .ok (.imul, 1) := by decide +kernel
theorem dX8_keeps_75 : decode cX8_keeps 75 = .ok (.invokestatic 275, 3) := by decide +kernel
theorem dX8_keeps_78 : decode cX8_keeps 78 = .ok (.aload_n 0, 1) := by decide +kernel
theorem dX8_keeps_79 : decode cX8_keeps 79 = .ok (.dup, 1) := by decide +kernel
theorem dX8_keeps_80 : decode cX8_keeps 80 = .ok (.getfield 210, 3) := by decide +kernel
theorem dX8_keeps_83 : decode cX8_keeps 83 = .ok (.iconst 1, 1) := by decide +kernel
theorem dX8_keeps_84 : decode cX8_keeps 84 = .ok (.iadd, 1) := by decide +kernel
theorem dX8_keeps_85 : decode cX8_keeps 85 = .ok (.putfield 210, 3) := by decide +kernel
theorem dX8_keeps_88 : decode cX8_keeps 88 = .ok (.return_, 1) := by decide +kernel
theorem dX8_undo_0 : decode cX8_undo 0 = .ok (.aload_n 0, 1) := by decide +kernel
theorem dX8_undo_1 : decode cX8_undo 1 = .ok (.iconst 0, 1) := by decide +kernel
theorem dX8_undo_2 : decode cX8_undo 2 = .ok (.putfield 71, 3) := by decide +kernel
theorem dX8_undo_5 : decode cX8_undo 5 = .ok (.aload_n 0, 1) := by decide +kernel
theorem dX8_undo_6 : decode cX8_undo 6 = .ok (.getfield 210, 3) := by decide +kernel
theorem dX8_undo_9 : decode cX8_undo 9 = .ok (.ifCond .ne 5, 3) := by decide +kernel
theorem dX8_undo_12 : decode cX8_undo 12 = .ok (.iconst (-1), 1) := by decide +kernel
theorem dX8_undo_13 : decode cX8_undo 13 = .ok (.ireturn, 1) := by decide +kernel
theorem dX8_undo_14 : decode cX8_undo 14 = .ok (.aload_n 0, 1) := by decide +kernel
theorem dX8_undo_15 : decode cX8_undo 15 = .ok (.dup, 1) := by decide +kernel
theorem dX8_undo_16 : decode cX8_undo 16 = .ok (.getfield 210, 3) := by decide +kernel
theorem dX8_undo_19 : decode cX8_undo 19 = .ok (.iconst 1, 1) := by decide +kernel
theorem dX8_undo_20 : decode cX8_undo 20 = .ok (.isub, 1) := by decide +kernel
theorem dX8_undo_21 : decode cX8_undo 21 = .ok (.putfield 210, 3) := by decide +kernel
theorem dX8_undo_24 : decode cX8_undo 24 = .ok (.aload_n 0, 1) := by decide +kernel
theorem dX8_undo_25 : decode cX8_undo 25 = .ok (.getfield 55, 3) := by decide +kernel
theorem dX8_undo_28 : decode cX8_undo 28 = .ok (.sipush 437, 3) := by decide +kernel
theorem dX8_undo_31 : decode cX8_undo 31 = .ok (.aload_n 0, 1) := by decide +kernel
theorem dX8_undo_32 : decode cX8_undo 32 = .ok (.getfield 210, 3) := by decide +kernel
theorem dX8_undo_35 : decode cX8_undo 35 = .ok (.imul, 1) := by decide +kernel
theorem dX8_undo_36 : decode cX8_undo 36 = .ok (.aload_n 0, 1) := by decide +kernel
theorem dX8_undo_37 : decode cX8_undo 37 = .ok (.getfield 17, 3) := by decide +kernel
theorem dX8_undo_40 : decode cX8_undo 40 = .ok (.iconst 0, 1) := by decide +kernel
theorem dX8_undo_41 : decode cX8_undo 41 = .ok (.invokestatic 275, 3) := by decide +kernel
theorem dX8_undo_44 : decode cX8_undo 44 = .ok (.aload_n 0, 1) := by decide +kernel
theorem dX8_undo_45 : decode cX8_undo 45 = .ok (.getfield 210, 3) := by decide +kernel
theorem dX8_undo_48 : decode cX8_undo 48 = .ok (.ireturn, 1) := by decide +kernel
theorem dX8_noSlot_0 : decode cX8_noSlot 0 = .ok (.aload_n 0, 1) := by decide +kernel
theorem dX8_noSlot_1 : decode cX8_noSlot 1 = .ok (.iconst 0, 1) := by decide +kernel
theorem dX8_noSlot_2 : decode cX8_noSlot 2 = .ok (.putfield 71, 3) := by decide +kernel
theorem dX8_noSlot_5 : decode cX8_noSlot 5 = .ok (.aload_n 0, 1) := by decide +kernel
theorem dX8_noSlot_6 : decode cX8_noSlot 6 = .ok (.iload_n 1, 1) := by decide +kernel
theorem dX8_noSlot_7 : decode cX8_noSlot 7 = .ok (.iconst 2, 1) := by decide +kernel
theorem dX8_noSlot_8 : decode cX8_noSlot 8 = .ok (.invokevirtual 303, 3) := by decide +kernel
theorem dX8_noSlot_11 : decode cX8_noSlot 11 = .ok (.ireturn, 1) := by decide +kernel
theorem dX8_saveSnapshot_0 : decode cX8_saveSnapshot 0 = .ok (.aload_n 0, 1) := by decide +kernel
theorem dX8_saveSnapshot_1 : decode cX8_saveSnapshot 1 = .ok (.iload_n 1, 1) := by decide +kernel
theorem dX8_saveSnapshot_2 : decode cX8_saveSnapshot 2 = .ok (.invokevirtual 329, 3) := by decide +kernel
theorem dX8_saveSnapshot_5 : decode cX8_saveSnapshot 5 = .ok (.ifCond .eq 5, 3) := by decide +kernel
theorem dX8_saveSnapshot_8 : decode cX8_saveSnapshot 8 = .ok (.iconst 0, 1) := by decide +kernel
theorem dX8_saveSnapshot_9 : decode cX8_saveSnapshot 9 = .ok (.ireturn, 1) := by decide +kernel
theorem dX8_saveSnapshot_10 : decode cX8_saveSnapshot 10 = .ok (.aload_n 0, 1) := by decide +kernel
theorem dX8_saveSnapshot_11 : decode cX8_saveSnapshot 11 = .ok (.getfield 61, 3) := by decide +kernel
theorem dX8_saveSnapshot_14 : decode cX8_saveSnapshot 14 = .ok (.iload_n 1, 1) := by decide +kernel
theorem dX8_saveSnapshot_15 : decode cX8_saveSnapshot 15 = .ok (.baload, 1) := by decide +kernel
theorem dX8_saveSnapshot_16 : decode cX8_saveSnapshot 16 = .ok (.istore_n 2, 1) := by decide +kernel
theorem dX8_saveSnapshot_17 : decode cX8_saveSnapshot 17 = .ok (.aload_n 0, 1) := by decide +kernel
theorem dX8_saveSnapshot_18 : decode cX8_saveSnapshot 18 = .ok (.getfield 17, 3) := by decide +kernel
theorem dX8_saveSnapshot_21 : decode cX8_saveSnapshot 21 = .ok (.iconst 0, 1) := by decide +kernel
theorem dX8_saveSnapshot_22 : decode cX8_saveSnapshot 22 = .ok (.aload_n 0, 1) := by decide +kernel
theorem dX8_saveSnapshot_23 : decode cX8_saveSnapshot 23 = .ok (.getfield 58, 3) := by decide +kernel
theorem dX8_saveSnapshot_26 : decode cX8_saveSnapshot 26 = .ok (.sipush 437, 3) := by decide +kernel
theorem dX8_saveSnapshot_29 : decode cX8_saveSnapshot 29 = .ok (.iload_n 1, 1) := by decide +kernel
theorem dX8_saveSnapshot_30 : decode cX8_saveSnapshot 30 = .ok (.imul, 1) := by decide +kernel
theorem dX8_saveSnapshot_31 : decode cX8_saveSnapshot 31 = .ok (.invokestatic 275, 3) := by decide +kernel
theorem dX8_saveSnapshot_34 : decode cX8_saveSnapshot 34 = .ok (.aload_n 0, 1) := by decide +kernel
theorem dX8_saveSnapshot_35 : decode cX8_saveSnapshot 35 = .ok (.getfield 61, 3) := by decide +kernel
theorem dX8_saveSnapshot_38 : decode cX8_saveSnapshot 38 = .ok (.iload_n 1, 1) := by decide +kernel
theorem dX8_saveSnapshot_39 : decode cX8_saveSnapshot 39 = .ok (.iconst 1, 1) := by decide +kernel
theorem dX8_saveSnapshot_40 : decode cX8_saveSnapshot 40 = .ok (.bastore, 1) := by decide +kernel
theorem dX8_saveSnapshot_41 : decode cX8_saveSnapshot 41 = .ok (.iload_n 2, 1) := by decide +kernel
theorem dX8_saveSnapshot_42 : decode cX8_saveSnapshot 42 = .ok (.ireturn, 1) := by decide +kernel
theorem dX8_restoreSnapshot_0 : decode cX8_restoreSnapshot 0 = .ok (.aload_n 0, 1) := by decide +kernel
theorem dX8_restoreSnapshot_1 : decode cX8_restoreSnapshot 1 = .ok (.iload_n 1, 1) := by decide +kernel
theorem dX8_restoreSnapshot_2 : decode cX8_restoreSnapshot 2 = .ok (.invokevirtual 329, 3) := by decide +kernel
theorem dX8_restoreSnapshot_5 : decode cX8_restoreSnapshot 5 = .ok (.ifCond .ne 25, 3) := by decide +kernel
theorem dX8_restoreSnapshot_8 : decode cX8_restoreSnapshot 8 = .ok (.aload_n 0, 1) := by decide +kernel
theorem dX8_restoreSnapshot_9 : decode cX8_restoreSnapshot 9 = .ok (.aload_n 0, 1) := by decide +kernel
theorem dX8_restoreSnapshot_10 : decode cX8_restoreSnapshot 10 = .ok (.getfield 61, 3) := by decide +kernel
theorem dX8_restoreSnapshot_13 : decode cX8_restoreSnapshot 13 = .ok (.iload_n 1, 1) := by decide +kernel
theorem dX8_restoreSnapshot_14 : decode cX8_restoreSnapshot 14 = .ok (.baload, 1) := by decide +kernel
theorem dX8_restoreSnapshot_15 : decode cX8_restoreSnapshot 15 = .ok (.ifCond .ne 7, 3) := by decide +kernel
theorem dX8_restoreSnapshot_18 : decode cX8_restoreSnapshot 18 = .ok (.iconst 1, 1) := by decide +kernel
theorem dX8_restoreSnapshot_19 : decode cX8_restoreSnapshot 19 = .ok (.goto 4, 3) := by decide +kernel
theorem dX8_restoreSnapshot_22 : decode cX8_restoreSnapshot 22 = .ok (.iconst 0, 1) := by decide +kernel
theorem dX8_restoreSnapshot_23 : decode cX8_restoreSnapshot 23 = .ok (.iconst 2, 1) := by decide +kernel
theorem dX8_restoreSnapshot_24 : decode cX8_restoreSnapshot 24 = .ok (.invokevirtual 194, 3) := by decide +kernel
theorem dX8_restoreSnapshot_27 : decode cX8_restoreSnapshot 27 = .ok (.ifCond .eq 5, 3) := by decide +kernel
theorem dX8_restoreSnapshot_30 : decode cX8_restoreSnapshot 30 = .ok (.iconst 0, 1) := by decide +kernel
theorem dX8_restoreSnapshot_31 : decode cX8_restoreSnapshot 31 = .ok (.ireturn, 1) := by decide +kernel
theorem dX8_restoreSnapshot_32 : decode cX8_restoreSnapshot 32 = .ok (.aload_n 0, 1) := by decide +kernel
theorem dX8_restoreSnapshot_33 : decode cX8_restoreSnapshot 33 = .ok (.getfield 58, 3) := by decide +kernel
theorem dX8_restoreSnapshot_36 : decode cX8_restoreSnapshot 36 = .ok (.sipush 437, 3) := by decide +kernel
theorem dX8_restoreSnapshot_39 : decode cX8_restoreSnapshot 39 = .ok (.iload_n 1, 1) := by decide +kernel
theorem dX8_restoreSnapshot_40 : decode cX8_restoreSnapshot 40 = .ok (.imul, 1) := by decide +kernel
theorem dX8_restoreSnapshot_41 : decode cX8_restoreSnapshot 41 = .ok (.aload_n 0, 1) := by decide +kernel
theorem dX8_restoreSnapshot_42 : decode cX8_restoreSnapshot 42 = .ok (.getfield 17, 3) := by decide +kernel
theorem dX8_restoreSnapshot_45 : decode cX8_restoreSnapshot 45 = .ok (.iconst 0, 1) := by decide +kernel
theorem dX8_restoreSnapshot_46 : decode cX8_restoreSnapshot 46 = .ok (.invokestatic 275, 3) := by decide +kernel
theorem dX8_restoreSnapshot_49 : decode cX8_restoreSnapshot 49 = .ok (.aload_n 0, 1) := by decide +kernel
theorem dX8_restoreSnapshot_50 : decode cX8_restoreSnapshot 50 = .ok (.iconst 0, 1) := by decide +kernel
theorem dX8_restoreSnapshot_51 : decode cX8_restoreSnapshot 51 = .ok (.putfield 210, 3) := by decide +kernel
theorem dX8_restoreSnapshot_54 : decode cX8_restoreSnapshot 54 = .ok (.aload_n 0, 1) := by decide +kernel
theorem dX8_restoreSnapshot_55 : decode cX8_restoreSnapshot 55 = .ok (.getfield 17, 3) := by decide +kernel
theorem dX8_restoreSnapshot_58 : decode cX8_restoreSnapshot 58 = .ok (.iconst 0, 1) := by decide +kernel
theorem dX8_restoreSnapshot_59 : decode cX8_restoreSnapshot 59 = .ok (.iaload, 1) := by decide +kernel
theorem dX8_restoreSnapshot_60 : decode cX8_restoreSnapshot 60 = .ok (.ireturn, 1) := by decide +kernel
theorem dL_parse_0 : decode cL_parse 0 = .ok (.aload_n 2, 1) := by decide +kernel
theorem dL_parse_1 : decode cL_parse 1 = .ok (.iconst 0, 1) := by decide +kernel
theorem dL_parse_2 : decode cL_parse 2 = .ok (.aload_n 0, 1) := by decide +kernel
theorem dL_parse_3 : decode cL_parse 3 = .ok (.iload_n 1, 1) := by decide +kernel
theorem dL_parse_4 : decode cL_parse 4 = .ok (.invokevirtual 7, 3) := by decide +kernel
theorem dL_parse_7 : decode cL_parse 7 = .ok (.i2l, 1) := by decide +kernel
theorem dL_parse_8 : decode cL_parse 8 = .ok (.lastore, 1) := by decide +kernel
theorem dL_parse_9 : decode cL_parse 9 = .ok (.goto 6, 3) := by decide +kernel
theorem dL_parse_12 : decode cL_parse 12 = .ok (.astore_n 3, 1) := by decide +kernel
theorem dL_parse_13 : decode cL_parse 13 = .ok (.iconst 1, 1) := by decide +kernel
theorem dL_parse_14 : decode cL_parse 14 = .ok (.ireturn, 1) := by decide +kernel
theorem dL_parse_15 : decode cL_parse 15 = .ok (.iconst 0, 1) := by decide +kernel
theorem dL_parse_16 : decode cL_parse 16 = .ok (.ireturn, 1) := by decide +kernel
theorem dL_size_0 : decode cL_size 0 = .ok (.aload_n 2, 1) := by decide +kernel
theorem dL_size_1 : decode cL_size 1 = .ok (.iconst 0, 1) := by decide +kernel
theorem dL_size_2 : decode cL_size 2 = .ok (.aload_n 0, 1) := by decide +kernel
theorem dL_size_3 : decode cL_size 3 = .ok (.iload_n 1, 1) := by decide +kernel
theorem dL_size_4 : decode cL_size 4 = .ok (.invokevirtual 15, 3) := by decide +kernel
theorem dL_size_7 : decode cL_size 7 = .ok (.i2l, 1) := by decide +kernel
theorem dL_size_8 : decode cL_size 8 = .ok (.lastore, 1) := by decide +kernel
theorem dL_size_9 : decode cL_size 9 = .ok (.goto 6, 3) := by decide +kernel
theorem dL_size_12 : decode cL_size 12 = .ok (.astore_n 3, 1) := by decide +kernel
theorem dL_size_13 : decode cL_size 13 = .ok (.iconst 1, 1) := by decide +kernel
theorem dL_size_14 : decode cL_size 14 = .ok (.ireturn, 1) := by decide +kernel
theorem dL_size_15 : decode cL_size 15 = .ok (.iconst 0, 1) := by decide +kernel
theorem dL_size_16 : decode cL_size 16 = .ok (.ireturn, 1) := by decide +kernel
theorem dL_rate_0 : decode cL_rate 0 = .ok (.aload_n 2, 1) := by decide +kernel
theorem dL_rate_1 : decode cL_rate 1 = .ok (.iconst 0, 1) := by decide +kernel
theorem dL_rate_2 : decode cL_rate 2 = .ok (.aload_n 0, 1) := by decide +kernel
theorem dL_rate_3 : decode cL_rate 3 = .ok (.iload_n 1, 1) := by decide +kernel
theorem dL_rate_4 : decode cL_rate 4 = .ok (.invokevirtual 18, 3) := by decide +kernel
theorem dL_rate_7 : decode cL_rate 7 = .ok (.i2l, 1) := by decide +kernel
theorem dL_rate_8 : decode cL_rate 8 = .ok (.lastore, 1) := by decide +kernel
theorem dL_rate_9 : decode cL_rate 9 = .ok (.goto 6, 3) := by decide +kernel
theorem dL_rate_12 : decode cL_rate 12 = .ok (.astore_n 3, 1) := by decide +kernel
theorem dL_rate_13 : decode cL_rate 13 = .ok (.iconst 1, 1) := by decide +kernel
theorem dL_rate_14 : decode cL_rate 14 = .ok (.ireturn, 1) := by decide +kernel
theorem dL_rate_15 : decode cL_rate 15 = .ok (.iconst 0, 1) := by decide +kernel
theorem dL_rate_16 : decode cL_rate 16 = .ok (.ireturn, 1) := by decide +kernel
theorem dL_player_0 : decode cL_player 0 = .ok (.aload_n 3, 1) := by decide +kernel
theorem dL_player_1 : decode cL_player 1 = .ok (.iconst 0, 1) := by decide +kernel
theorem dL_player_2 : decode cL_player 2 = .ok (.aload_n 0, 1) := by decide +kernel
theorem dL_player_3 : decode cL_player 3 = .ok (.iload_n 1, 1) := by decide +kernel
theorem dL_player_4 : decode cL_player 4 = .ok (.iload_n 2, 1) := by decide +kernel
theorem dL_player_5 : decode cL_player 5 = .ok (.invokevirtual 21, 3) := by decide +kernel
theorem dL_player_8 : decode cL_player 8 = .ok (.i2l, 1) := by decide +kernel
theorem dL_player_9 : decode cL_player 9 = .ok (.lastore, 1) := by decide +kernel
theorem dL_player_10 : decode cL_player 10 = .ok (.goto 11, 3) := by decide +kernel
theorem dL_player_13 : decode cL_player 13 = .ok (.astore 4, 2) := by decide +kernel
theorem dL_player_15 : decode cL_player 15 = .ok (.iconst 1, 1) := by decide +kernel
theorem dL_player_16 : decode cL_player 16 = .ok (.ireturn, 1) := by decide +kernel
theorem dL_player_17 : decode cL_player 17 = .ok (.astore 4, 2) := by decide +kernel
theorem dL_player_19 : decode cL_player 19 = .ok (.iconst 2, 1) := by decide +kernel
theorem dL_player_20 : decode cL_player 20 = .ok (.ireturn, 1) := by decide +kernel
theorem dL_player_21 : decode cL_player 21 = .ok (.iconst 0, 1) := by decide +kernel
theorem dL_player_22 : decode cL_player 22 = .ok (.ireturn, 1) := by decide +kernel
theorem dL_loaded_0 : decode cL_loaded 0 = .ok (.aload 4, 2) := by decide +kernel
theorem dL_loaded_2 : decode cL_loaded 2 = .ok (.iconst 0, 1) := by decide +kernel
theorem dL_loaded_3 : decode cL_loaded 3 = .ok (.aload_n 0, 1) := by decide +kernel
theorem dL_loaded_4 : decode cL_loaded 4 = .ok (.iload_n 1, 1) := by decide +kernel
theorem dL_loaded_5 : decode cL_loaded 5 = .ok (.iload_n 2, 1) := by decide +kernel
theorem dL_loaded_6 : decode cL_loaded 6 = .ok (.iload_n 3, 1) := by decide +kernel
theorem dL_loaded_7 : decode cL_loaded 7 = .ok (.invokevirtual 27, 3) := by decide +kernel
theorem dL_loaded_10 : decode cL_loaded 10 = .ok (.i2l, 1) := by decide +kernel
theorem dL_loaded_11 : decode cL_loaded 11 = .ok (.lastore, 1) := by decide +kernel
theorem dL_loaded_12 : decode cL_loaded 12 = .ok (.goto 11, 3) := by decide +kernel
theorem dL_loaded_15 : decode cL_loaded 15 = .ok (.astore 5, 2) := by decide +kernel
theorem dL_loaded_17 : decode cL_loaded 17 = .ok (.iconst 1, 1) := by decide +kernel
theorem dL_loaded_18 : decode cL_loaded 18 = .ok (.ireturn, 1) := by decide +kernel
theorem dL_loaded_19 : decode cL_loaded 19 = .ok (.astore 5, 2) := by decide +kernel
theorem dL_loaded_21 : decode cL_loaded 21 = .ok (.iconst 2, 1) := by decide +kernel
theorem dL_loaded_22 : decode cL_loaded 22 = .ok (.ireturn, 1) := by decide +kernel
theorem dL_loaded_23 : decode cL_loaded 23 = .ok (.iconst 0, 1) := by decide +kernel
theorem dL_loaded_24 : decode cL_loaded 24 = .ok (.ireturn, 1) := by decide +kernel
theorem dL_sizeOf_0 : decode cL_sizeOf 0 = .ok (.aload 4, 2) := by decide +kernel
theorem dL_sizeOf_2 : decode cL_sizeOf 2 = .ok (.iconst 0, 1) := by decide +kernel
theorem dL_sizeOf_3 : decode cL_sizeOf 3 = .ok (.aload_n 0, 1) := by decide +kernel
theorem dL_sizeOf_4 : decode cL_sizeOf 4 = .ok (.iload_n 1, 1) := by decide +kernel
theorem dL_sizeOf_5 : decode cL_sizeOf 5 = .ok (.iload_n 2, 1) := by decide +kernel
theorem dL_sizeOf_6 : decode cL_sizeOf 6 = .ok (.iload_n 3, 1) := by decide +kernel
theorem dL_sizeOf_7 : decode cL_sizeOf 7 = .ok (.invokevirtual 31, 3) := by decide +kernel
theorem dL_sizeOf_10 : decode cL_sizeOf 10 = .ok (.i2l, 1) := by decide +kernel
theorem dL_sizeOf_11 : decode cL_sizeOf 11 = .ok (.lastore, 1) := by decide +kernel
theorem dL_sizeOf_12 : decode cL_sizeOf 12 = .ok (.goto 11, 3) := by decide +kernel
theorem dL_sizeOf_15 : decode cL_sizeOf 15 = .ok (.astore 5, 2) := by decide +kernel
theorem dL_sizeOf_17 : decode cL_sizeOf 17 = .ok (.iconst 1, 1) := by decide +kernel
theorem dL_sizeOf_18 : decode cL_sizeOf 18 = .ok (.ireturn, 1) := by decide +kernel
theorem dL_sizeOf_19 : decode cL_sizeOf 19 = .ok (.astore 5, 2) := by decide +kernel
theorem dL_sizeOf_21 : decode cL_sizeOf 21 = .ok (.iconst 2, 1) := by decide +kernel
theorem dL_sizeOf_22 : decode cL_sizeOf 22 = .ok (.ireturn, 1) := by decide +kernel
theorem dL_sizeOf_23 : decode cL_sizeOf 23 = .ok (.iconst 0, 1) := by decide +kernel
theorem dL_sizeOf_24 : decode cL_sizeOf 24 = .ok (.ireturn, 1) := by decide +kernel
theorem dL_wouldChoose_0 : decode cL_wouldChoose 0 = .ok (.aload_n 2, 1) := by decide +kernel
theorem dL_wouldChoose_1 : decode cL_wouldChoose 1 = .ok (.iconst 0, 1) := by decide +kernel
theorem dL_wouldChoose_2 : decode cL_wouldChoose 2 = .ok (.aload_n 0, 1) := by decide +kernel
theorem dL_wouldChoose_3 : decode cL_wouldChoose 3 = .ok (.iload_n 1, 1) := by decide +kernel
theorem dL_wouldChoose_4 : decode cL_wouldChoose 4 = .ok (.invokevirtual 34, 3) := by decide +kernel
theorem dL_wouldChoose_7 : decode cL_wouldChoose 7 = .ok (.i2l, 1) := by decide +kernel
theorem dL_wouldChoose_8 : decode cL_wouldChoose 8 = .ok (.lastore, 1) := by decide +kernel
theorem dL_wouldChoose_9 : decode cL_wouldChoose 9 = .ok (.goto 6, 3) := by decide +kernel
theorem dL_wouldChoose_12 : decode cL_wouldChoose 12 = .ok (.astore_n 3, 1) := by decide +kernel
theorem dL_wouldChoose_13 : decode cL_wouldChoose 13 = .ok (.iconst 1, 1) := by decide +kernel
theorem dL_wouldChoose_14 : decode cL_wouldChoose 14 = .ok (.ireturn, 1) := by decide +kernel
theorem dL_wouldChoose_15 : decode cL_wouldChoose 15 = .ok (.iconst 0, 1) := by decide +kernel
theorem dL_wouldChoose_16 : decode cL_wouldChoose 16 = .ok (.ireturn, 1) := by decide +kernel
theorem dL_share_0 : decode cL_share 0 = .ok (.aload_n 2, 1) := by decide +kernel
theorem dL_share_1 : decode cL_share 1 = .ok (.iconst 0, 1) := by decide +kernel
theorem dL_share_2 : decode cL_share 2 = .ok (.aload_n 0, 1) := by decide +kernel
theorem dL_share_3 : decode cL_share 3 = .ok (.iload_n 1, 1) := by decide +kernel
theorem dL_share_4 : decode cL_share 4 = .ok (.invokevirtual 37, 3) := by decide +kernel
theorem dL_share_7 : decode cL_share 7 = .ok (.i2l, 1) := by decide +kernel
theorem dL_share_8 : decode cL_share 8 = .ok (.lastore, 1) := by decide +kernel
theorem dL_share_9 : decode cL_share 9 = .ok (.goto 6, 3) := by decide +kernel
theorem dL_share_12 : decode cL_share 12 = .ok (.astore_n 3, 1) := by decide +kernel
theorem dL_share_13 : decode cL_share 13 = .ok (.iconst 1, 1) := by decide +kernel
theorem dL_share_14 : decode cL_share 14 = .ok (.ireturn, 1) := by decide +kernel
theorem dL_share_15 : decode cL_share 15 = .ok (.iconst 0, 1) := by decide +kernel
theorem dL_share_16 : decode cL_share 16 = .ok (.ireturn, 1) := by decide +kernel
theorem dL_forecast_0 : decode cL_forecast 0 = .ok (.aload_n 3, 1) := by decide +kernel
theorem dL_forecast_1 : decode cL_forecast 1 = .ok (.iconst 0, 1) := by decide +kernel
theorem dL_forecast_2 : decode cL_forecast 2 = .ok (.aload_n 0, 1) := by decide +kernel
theorem dL_forecast_3 : decode cL_forecast 3 = .ok (.iload_n 1, 1) := by decide +kernel
theorem dL_forecast_4 : decode cL_forecast 4 = .ok (.iload_n 2, 1) := by decide +kernel
theorem dL_forecast_5 : decode cL_forecast 5 = .ok (.invokevirtual 40, 3) := by decide +kernel
theorem dL_forecast_8 : decode cL_forecast 8 = .ok (.i2l, 1) := by decide +kernel
theorem dL_forecast_9 : decode cL_forecast 9 = .ok (.lastore, 1) := by decide +kernel
theorem dL_forecast_10 : decode cL_forecast 10 = .ok (.goto 11, 3) := by decide +kernel
theorem dL_forecast_13 : decode cL_forecast 13 = .ok (.astore 4, 2) := by decide +kernel
theorem dL_forecast_15 : decode cL_forecast 15 = .ok (.iconst 1, 1) := by decide +kernel
theorem dL_forecast_16 : decode cL_forecast 16 = .ok (.ireturn, 1) := by decide +kernel
theorem dL_forecast_17 : decode cL_forecast 17 = .ok (.astore 4, 2) := by decide +kernel
theorem dL_forecast_19 : decode cL_forecast 19 = .ok (.iconst 2, 1) := by decide +kernel
theorem dL_forecast_20 : decode cL_forecast 20 = .ok (.ireturn, 1) := by decide +kernel
theorem dL_forecast_21 : decode cL_forecast 21 = .ok (.iconst 0, 1) := by decide +kernel
theorem dL_forecast_22 : decode cL_forecast 22 = .ok (.ireturn, 1) := by decide +kernel
theorem dL_steadyQuality_0 : decode cL_steadyQuality 0 = .ok (.aload_n 2, 1) := by decide +kernel
theorem dL_steadyQuality_1 : decode cL_steadyQuality 1 = .ok (.iconst 0, 1) := by decide +kernel
theorem dL_steadyQuality_2 : decode cL_steadyQuality 2 = .ok (.aload_n 0, 1) := by decide +kernel
theorem dL_steadyQuality_3 : decode cL_steadyQuality 3 = .ok (.iload_n 1, 1) := by decide +kernel
theorem dL_steadyQuality_4 : decode cL_steadyQuality 4 = .ok (.invokevirtual 43, 3) := by decide +kernel
theorem dL_steadyQuality_7 : decode cL_steadyQuality 7 = .ok (.i2l, 1) := by decide +kernel
theorem dL_steadyQuality_8 : decode cL_steadyQuality 8 = .ok (.lastore, 1) := by decide +kernel
theorem dL_steadyQuality_9 : decode cL_steadyQuality 9 = .ok (.goto 6, 3) := by decide +kernel
theorem dL_steadyQuality_12 : decode cL_steadyQuality 12 = .ok (.astore_n 3, 1) := by decide +kernel
theorem dL_steadyQuality_13 : decode cL_steadyQuality 13 = .ok (.iconst 1, 1) := by decide +kernel
theorem dL_steadyQuality_14 : decode cL_steadyQuality 14 = .ok (.ireturn, 1) := by decide +kernel
theorem dL_steadyQuality_15 : decode cL_steadyQuality 15 = .ok (.iconst 0, 1) := by decide +kernel
theorem dL_steadyQuality_16 : decode cL_steadyQuality 16 = .ok (.ireturn, 1) := by decide +kernel
theorem dL_oracle_0 : decode cL_oracle 0 = .ok (.aload_n 3, 1) := by decide +kernel
theorem dL_oracle_1 : decode cL_oracle 1 = .ok (.iconst 0, 1) := by decide +kernel
theorem dL_oracle_2 : decode cL_oracle 2 = .ok (.aload_n 0, 1) := by decide +kernel
theorem dL_oracle_3 : decode cL_oracle 3 = .ok (.iload_n 1, 1) := by decide +kernel
theorem dL_oracle_4 : decode cL_oracle 4 = .ok (.iload_n 2, 1) := by decide +kernel
theorem dL_oracle_5 : decode cL_oracle 5 = .ok (.invokevirtual 46, 3) := by decide +kernel
theorem dL_oracle_8 : decode cL_oracle 8 = .ok (.i2l, 1) := by decide +kernel
theorem dL_oracle_9 : decode cL_oracle 9 = .ok (.lastore, 1) := by decide +kernel
theorem dL_oracle_10 : decode cL_oracle 10 = .ok (.goto 7, 3) := by decide +kernel
theorem dL_oracle_13 : decode cL_oracle 13 = .ok (.astore 4, 2) := by decide +kernel
theorem dL_oracle_15 : decode cL_oracle 15 = .ok (.iconst 1, 1) := by decide +kernel
theorem dL_oracle_16 : decode cL_oracle 16 = .ok (.ireturn, 1) := by decide +kernel
theorem dL_oracle_17 : decode cL_oracle 17 = .ok (.iconst 0, 1) := by decide +kernel
theorem dL_oracle_18 : decode cL_oracle 18 = .ok (.ireturn, 1) := by decide +kernel
theorem dL_regret_0 : decode cL_regret 0 = .ok (.aload_n 2, 1) := by decide +kernel
theorem dL_regret_1 : decode cL_regret 1 = .ok (.iconst 0, 1) := by decide +kernel
theorem dL_regret_2 : decode cL_regret 2 = .ok (.aload_n 0, 1) := by decide +kernel
theorem dL_regret_3 : decode cL_regret 3 = .ok (.iload_n 1, 1) := by decide +kernel
theorem dL_regret_4 : decode cL_regret 4 = .ok (.invokevirtual 49, 3) := by decide +kernel
theorem dL_regret_7 : decode cL_regret 7 = .ok (.i2l, 1) := by decide +kernel
theorem dL_regret_8 : decode cL_regret 8 = .ok (.lastore, 1) := by decide +kernel
theorem dL_regret_9 : decode cL_regret 9 = .ok (.goto 6, 3) := by decide +kernel
theorem dL_regret_12 : decode cL_regret 12 = .ok (.astore_n 3, 1) := by decide +kernel
theorem dL_regret_13 : decode cL_regret 13 = .ok (.iconst 1, 1) := by decide +kernel
theorem dL_regret_14 : decode cL_regret 14 = .ok (.ireturn, 1) := by decide +kernel
theorem dL_regret_15 : decode cL_regret 15 = .ok (.iconst 0, 1) := by decide +kernel
theorem dL_regret_16 : decode cL_regret 16 = .ok (.ireturn, 1) := by decide +kernel
theorem dL_meanQuality_0 : decode cL_meanQuality 0 = .ok (.aload_n 2, 1) := by decide +kernel
theorem dL_meanQuality_1 : decode cL_meanQuality 1 = .ok (.iconst 0, 1) := by decide +kernel
theorem dL_meanQuality_2 : decode cL_meanQuality 2 = .ok (.aload_n 0, 1) := by decide +kernel
theorem dL_meanQuality_3 : decode cL_meanQuality 3 = .ok (.iload_n 1, 1) := by decide +kernel
theorem dL_meanQuality_4 : decode cL_meanQuality 4 = .ok (.invokevirtual 52, 3) := by decide +kernel
theorem dL_meanQuality_7 : decode cL_meanQuality 7 = .ok (.dastore, 1) := by decide +kernel
theorem dL_meanQuality_8 : decode cL_meanQuality 8 = .ok (.goto 6, 3) := by decide +kernel
theorem dL_meanQuality_11 : decode cL_meanQuality 11 = .ok (.astore_n 3, 1) := by decide +kernel
theorem dL_meanQuality_12 : decode cL_meanQuality 12 = .ok (.iconst 1, 1) := by decide +kernel
theorem dL_meanQuality_13 : decode cL_meanQuality 13 = .ok (.ireturn, 1) := by decide +kernel
theorem dL_meanQuality_14 : decode cL_meanQuality 14 = .ok (.iconst 0, 1) := by decide +kernel
theorem dL_meanQuality_15 : decode cL_meanQuality 15 = .ok (.ireturn, 1) := by decide +kernel
theorem dL_account_0 : decode cL_account 0 = .ok (.aload_n 2, 1) := by decide +kernel
theorem dL_account_1 : decode cL_account 1 = .ok (.iconst 0, 1) := by decide +kernel
theorem dL_account_2 : decode cL_account 2 = .ok (.aload_n 0, 1) := by decide +kernel
theorem dL_account_3 : decode cL_account 3 = .ok (.iload_n 1, 1) := by decide +kernel
theorem dL_account_4 : decode cL_account 4 = .ok (.invokevirtual 56, 3) := by decide +kernel
theorem dL_account_7 : decode cL_account 7 = .ok (.i2l, 1) := by decide +kernel
theorem dL_account_8 : decode cL_account 8 = .ok (.lastore, 1) := by decide +kernel
theorem dL_account_9 : decode cL_account 9 = .ok (.goto 6, 3) := by decide +kernel
theorem dL_account_12 : decode cL_account 12 = .ok (.astore_n 3, 1) := by decide +kernel
theorem dL_account_13 : decode cL_account 13 = .ok (.iconst 1, 1) := by decide +kernel
theorem dL_account_14 : decode cL_account 14 = .ok (.ireturn, 1) := by decide +kernel
theorem dL_account_15 : decode cL_account 15 = .ok (.iconst 0, 1) := by decide +kernel
theorem dL_account_16 : decode cL_account 16 = .ok (.ireturn, 1) := by decide +kernel
theorem dL_run_0 : decode cL_run 0 = .ok (.aload_n 2, 1) := by decide +kernel
theorem dL_run_1 : decode cL_run 1 = .ok (.iconst 0, 1) := by decide +kernel
theorem dL_run_2 : decode cL_run 2 = .ok (.aload_n 0, 1) := by decide +kernel
theorem dL_run_3 : decode cL_run 3 = .ok (.iload_n 1, 1) := by decide +kernel
theorem dL_run_4 : decode cL_run 4 = .ok (.invokevirtual 59, 3) := by decide +kernel
theorem dL_run_7 : decode cL_run 7 = .ok (.i2l, 1) := by decide +kernel
theorem dL_run_8 : decode cL_run 8 = .ok (.lastore, 1) := by decide +kernel
theorem dL_run_9 : decode cL_run 9 = .ok (.goto 9, 3) := by decide +kernel
theorem dL_run_12 : decode cL_run 12 = .ok (.astore_n 3, 1) := by decide +kernel
theorem dL_run_13 : decode cL_run 13 = .ok (.iconst 1, 1) := by decide +kernel
theorem dL_run_14 : decode cL_run 14 = .ok (.ireturn, 1) := by decide +kernel
theorem dL_run_15 : decode cL_run 15 = .ok (.astore_n 3, 1) := by decide +kernel
theorem dL_run_16 : decode cL_run 16 = .ok (.iconst 2, 1) := by decide +kernel
theorem dL_run_17 : decode cL_run 17 = .ok (.ireturn, 1) := by decide +kernel
theorem dL_run_18 : decode cL_run 18 = .ok (.iconst 0, 1) := by decide +kernel
theorem dL_run_19 : decode cL_run 19 = .ok (.ireturn, 1) := by decide +kernel
theorem dL_setRule_0 : decode cL_setRule 0 = .ok (.aload_n 3, 1) := by decide +kernel
theorem dL_setRule_1 : decode cL_setRule 1 = .ok (.iconst 0, 1) := by decide +kernel
theorem dL_setRule_2 : decode cL_setRule 2 = .ok (.aload_n 0, 1) := by decide +kernel
theorem dL_setRule_3 : decode cL_setRule 3 = .ok (.iload_n 1, 1) := by decide +kernel
theorem dL_setRule_4 : decode cL_setRule 4 = .ok (.iload_n 2, 1) := by decide +kernel
theorem dL_setRule_5 : decode cL_setRule 5 = .ok (.invokevirtual 64, 3) := by decide +kernel
theorem dL_setRule_8 : decode cL_setRule 8 = .ok (.i2l, 1) := by decide +kernel
theorem dL_setRule_9 : decode cL_setRule 9 = .ok (.lastore, 1) := by decide +kernel
theorem dL_setRule_10 : decode cL_setRule 10 = .ok (.goto 11, 3) := by decide +kernel
theorem dL_setRule_13 : decode cL_setRule 13 = .ok (.astore 4, 2) := by decide +kernel
theorem dL_setRule_15 : decode cL_setRule 15 = .ok (.iconst 1, 1) := by decide +kernel
theorem dL_setRule_16 : decode cL_setRule 16 = .ok (.ireturn, 1) := by decide +kernel
theorem dL_setRule_17 : decode cL_setRule 17 = .ok (.astore 4, 2) := by decide +kernel
theorem dL_setRule_19 : decode cL_setRule 19 = .ok (.iconst 2, 1) := by decide +kernel
theorem dL_setRule_20 : decode cL_setRule 20 = .ok (.ireturn, 1) := by decide +kernel
theorem dL_setRule_21 : decode cL_setRule 21 = .ok (.iconst 0, 1) := by decide +kernel
theorem dL_setRule_22 : decode cL_setRule 22 = .ok (.ireturn, 1) := by decide +kernel
theorem dL_setWeight_0 : decode cL_setWeight 0 = .ok (.aload_n 3, 1) := by decide +kernel
theorem dL_setWeight_1 : decode cL_setWeight 1 = .ok (.iconst 0, 1) := by decide +kernel
theorem dL_setWeight_2 : decode cL_setWeight 2 = .ok (.aload_n 0, 1) := by decide +kernel
theorem dL_setWeight_3 : decode cL_setWeight 3 = .ok (.iload_n 1, 1) := by decide +kernel
theorem dL_setWeight_4 : decode cL_setWeight 4 = .ok (.iload_n 2, 1) := by decide +kernel
theorem dL_setWeight_5 : decode cL_setWeight 5 = .ok (.invokevirtual 67, 3) := by decide +kernel
theorem dL_setWeight_8 : decode cL_setWeight 8 = .ok (.i2l, 1) := by decide +kernel
theorem dL_setWeight_9 : decode cL_setWeight 9 = .ok (.lastore, 1) := by decide +kernel
theorem dL_setWeight_10 : decode cL_setWeight 10 = .ok (.goto 11, 3) := by decide +kernel
theorem dL_setWeight_13 : decode cL_setWeight 13 = .ok (.astore 4, 2) := by decide +kernel
theorem dL_setWeight_15 : decode cL_setWeight 15 = .ok (.iconst 1, 1) := by decide +kernel
theorem dL_setWeight_16 : decode cL_setWeight 16 = .ok (.ireturn, 1) := by decide +kernel
theorem dL_setWeight_17 : decode cL_setWeight 17 = .ok (.astore 4, 2) := by decide +kernel
theorem dL_setWeight_19 : decode cL_setWeight 19 = .ok (.iconst 2, 1) := by decide +kernel
theorem dL_setWeight_20 : decode cL_setWeight 20 = .ok (.ireturn, 1) := by decide +kernel
theorem dL_setWeight_21 : decode cL_setWeight 21 = .ok (.iconst 0, 1) := by decide +kernel
theorem dL_setWeight_22 : decode cL_setWeight 22 = .ok (.ireturn, 1) := by decide +kernel
theorem dL_setRate_0 : decode cL_setRate 0 = .ok (.aload_n 3, 1) := by decide +kernel
theorem dL_setRate_1 : decode cL_setRate 1 = .ok (.iconst 0, 1) := by decide +kernel
theorem dL_setRate_2 : decode cL_setRate 2 = .ok (.aload_n 0, 1) := by decide +kernel
theorem dL_setRate_3 : decode cL_setRate 3 = .ok (.iload_n 1, 1) := by decide +kernel
theorem dL_setRate_4 : decode cL_setRate 4 = .ok (.iload_n 2, 1) := by decide +kernel
theorem dL_setRate_5 : decode cL_setRate 5 = .ok (.invokevirtual 70, 3) := by decide +kernel
theorem dL_setRate_8 : decode cL_setRate 8 = .ok (.i2l, 1) := by decide +kernel
theorem dL_setRate_9 : decode cL_setRate 9 = .ok (.lastore, 1) := by decide +kernel
theorem dL_setRate_10 : decode cL_setRate 10 = .ok (.goto 11, 3) := by decide +kernel
theorem dL_setRate_13 : decode cL_setRate 13 = .ok (.astore 4, 2) := by decide +kernel
theorem dL_setRate_15 : decode cL_setRate 15 = .ok (.iconst 1, 1) := by decide +kernel
theorem dL_setRate_16 : decode cL_setRate 16 = .ok (.ireturn, 1) := by decide +kernel
theorem dL_setRate_17 : decode cL_setRate 17 = .ok (.astore 4, 2) := by decide +kernel
theorem dL_setRate_19 : decode cL_setRate 19 = .ok (.iconst 2, 1) := by decide +kernel
theorem dL_setRate_20 : decode cL_setRate 20 = .ok (.ireturn, 1) := by decide +kernel
theorem dL_setRate_21 : decode cL_setRate 21 = .ok (.iconst 0, 1) := by decide +kernel
theorem dL_setRate_22 : decode cL_setRate 22 = .ok (.ireturn, 1) := by decide +kernel
theorem dL_quit_0 : decode cL_quit 0 = .ok (.aload_n 2, 1) := by decide +kernel
theorem dL_quit_1 : decode cL_quit 1 = .ok (.iconst 0, 1) := by decide +kernel
theorem dL_quit_2 : decode cL_quit 2 = .ok (.aload_n 0, 1) := by decide +kernel
theorem dL_quit_3 : decode cL_quit 3 = .ok (.iload_n 1, 1) := by decide +kernel
theorem dL_quit_4 : decode cL_quit 4 = .ok (.invokevirtual 73, 3) := by decide +kernel
theorem dL_quit_7 : decode cL_quit 7 = .ok (.i2l, 1) := by decide +kernel
theorem dL_quit_8 : decode cL_quit 8 = .ok (.lastore, 1) := by decide +kernel
theorem dL_quit_9 : decode cL_quit 9 = .ok (.goto 9, 3) := by decide +kernel
theorem dL_quit_12 : decode cL_quit 12 = .ok (.astore_n 3, 1) := by decide +kernel
theorem dL_quit_13 : decode cL_quit 13 = .ok (.iconst 1, 1) := by decide +kernel
theorem dL_quit_14 : decode cL_quit 14 = .ok (.ireturn, 1) := by decide +kernel
theorem dL_quit_15 : decode cL_quit 15 = .ok (.astore_n 3, 1) := by decide +kernel
theorem dL_quit_16 : decode cL_quit 16 = .ok (.iconst 2, 1) := by decide +kernel
theorem dL_quit_17 : decode cL_quit 17 = .ok (.ireturn, 1) := by decide +kernel
theorem dL_quit_18 : decode cL_quit 18 = .ok (.iconst 0, 1) := by decide +kernel
theorem dL_quit_19 : decode cL_quit 19 = .ok (.ireturn, 1) := by decide +kernel
theorem dL_saveSnapshot_0 : decode cL_saveSnapshot 0 = .ok (.aload_n 2, 1) := by decide +kernel
theorem dL_saveSnapshot_1 : decode cL_saveSnapshot 1 = .ok (.iconst 0, 1) := by decide +kernel
theorem dL_saveSnapshot_2 : decode cL_saveSnapshot 2 = .ok (.aload_n 0, 1) := by decide +kernel
theorem dL_saveSnapshot_3 : decode cL_saveSnapshot 3 = .ok (.iload_n 1, 1) := by decide +kernel
theorem dL_saveSnapshot_4 : decode cL_saveSnapshot 4 = .ok (.invokevirtual 76, 3) := by decide +kernel
theorem dL_saveSnapshot_7 : decode cL_saveSnapshot 7 = .ok (.ifCond .eq 7, 3) := by decide +kernel
theorem dL_saveSnapshot_10 : decode cL_saveSnapshot 10 = .ok (.lconst 1, 1) := by decide +kernel
theorem dL_saveSnapshot_11 : decode cL_saveSnapshot 11 = .ok (.goto 4, 3) := by decide +kernel
theorem dL_saveSnapshot_14 : decode cL_saveSnapshot 14 = .ok (.lconst 0, 1) := by decide +kernel
theorem dL_saveSnapshot_15 : decode cL_saveSnapshot 15 = .ok (.lastore, 1) := by decide +kernel
theorem dL_saveSnapshot_16 : decode cL_saveSnapshot 16 = .ok (.goto 6, 3) := by decide +kernel
theorem dL_saveSnapshot_19 : decode cL_saveSnapshot 19 = .ok (.astore_n 3, 1) := by decide +kernel
theorem dL_saveSnapshot_20 : decode cL_saveSnapshot 20 = .ok (.iconst 1, 1) := by decide +kernel
theorem dL_saveSnapshot_21 : decode cL_saveSnapshot 21 = .ok (.ireturn, 1) := by decide +kernel
theorem dL_saveSnapshot_22 : decode cL_saveSnapshot 22 = .ok (.iconst 0, 1) := by decide +kernel
theorem dL_saveSnapshot_23 : decode cL_saveSnapshot 23 = .ok (.ireturn, 1) := by decide +kernel
theorem dL_restoreSnapshot_0 : decode cL_restoreSnapshot 0 = .ok (.aload_n 2, 1) := by decide +kernel
theorem dL_restoreSnapshot_1 : decode cL_restoreSnapshot 1 = .ok (.iconst 0, 1) := by decide +kernel
theorem dL_restoreSnapshot_2 : decode cL_restoreSnapshot 2 = .ok (.aload_n 0, 1) := by decide +kernel
theorem dL_restoreSnapshot_3 : decode cL_restoreSnapshot 3 = .ok (.iload_n 1, 1) := by decide +kernel
theorem dL_restoreSnapshot_4 : decode cL_restoreSnapshot 4 = .ok (.invokevirtual 80, 3) := by decide +kernel
theorem dL_restoreSnapshot_7 : decode cL_restoreSnapshot 7 = .ok (.i2l, 1) := by decide +kernel
theorem dL_restoreSnapshot_8 : decode cL_restoreSnapshot 8 = .ok (.lastore, 1) := by decide +kernel
theorem dL_restoreSnapshot_9 : decode cL_restoreSnapshot 9 = .ok (.goto 9, 3) := by decide +kernel
theorem dL_restoreSnapshot_12 : decode cL_restoreSnapshot 12 = .ok (.astore_n 3, 1) := by decide +kernel
theorem dL_restoreSnapshot_13 : decode cL_restoreSnapshot 13 = .ok (.iconst 1, 1) := by decide +kernel
theorem dL_restoreSnapshot_14 : decode cL_restoreSnapshot 14 = .ok (.ireturn, 1) := by decide +kernel
theorem dL_restoreSnapshot_15 : decode cL_restoreSnapshot 15 = .ok (.astore_n 3, 1) := by decide +kernel
theorem dL_restoreSnapshot_16 : decode cL_restoreSnapshot 16 = .ok (.iconst 2, 1) := by decide +kernel
theorem dL_restoreSnapshot_17 : decode cL_restoreSnapshot 17 = .ok (.ireturn, 1) := by decide +kernel
theorem dL_restoreSnapshot_18 : decode cL_restoreSnapshot 18 = .ok (.iconst 0, 1) := by decide +kernel
theorem dL_restoreSnapshot_19 : decode cL_restoreSnapshot 19 = .ok (.ireturn, 1) := by decide +kernel
theorem dL_law_0 : decode cL_law 0 = .ok (.new 8, 3) := by decide +kernel
theorem dL_law_3 : decode cL_law 3 = .ok (.dup, 1) := by decide +kernel
theorem dL_law_4 : decode cL_law 4 = .ok (.invokespecial 83, 3) := by decide +kernel
theorem dL_law_7 : decode cL_law 7 = .ok (.astore_n 1, 1) := by decide +kernel
theorem dL_law_8 : decode cL_law 8 = .ok (.new 84, 3) := by decide +kernel
theorem dL_law_11 : decode cL_law 11 = .ok (.dup, 1) := by decide +kernel
theorem dL_law_12 : decode cL_law 12 = .ok (.invokespecial 86, 3) := by decide +kernel
theorem dL_law_15 : decode cL_law 15 = .ok (.astore_n 2, 1) := by decide +kernel
theorem dL_law_16 : decode cL_law 16 = .ok (.iconst 1, 1) := by decide +kernel
theorem dL_law_17 : decode cL_law 17 = .ok (.newarray .long, 2) := by decide +kernel
theorem dL_law_19 : decode cL_law 19 = .ok (.astore_n 3, 1) := by decide +kernel
theorem dL_law_20 : decode cL_law 20 = .ok (.iconst 1, 1) := by decide +kernel
theorem dL_law_21 : decode cL_law 21 = .ok (.newarray .double, 2) := by decide +kernel
theorem dL_law_23 : decode cL_law 23 = .ok (.astore 4, 2) := by decide +kernel
theorem dL_law_25 : decode cL_law 25 = .ok (.iconst 0, 1) := by decide +kernel
theorem dL_law_26 : decode cL_law 26 = .ok (.istore 5, 2) := by decide +kernel
theorem dL_law_28 : decode cL_law 28 = .ok (.iload 5, 2) := by decide +kernel
theorem dL_law_30 : decode cL_law 30 = .ok (.aload_n 0, 1) := by decide +kernel
theorem dL_law_31 : decode cL_law 31 = .ok (.arraylength, 1) := by decide +kernel
theorem dL_law_32 : decode cL_law 32 = .ok (.bipush 6, 2) := by decide +kernel
theorem dL_law_34 : decode cL_law 34 = .ok (.isub, 1) := by decide +kernel
theorem dL_law_35 : decode cL_law 35 = .ok (.if_icmp .gt 1646, 3) := by decide +kernel
theorem dL_law_38 : decode cL_law 38 = .ok (.aload_n 0, 1) := by decide +kernel
theorem dL_law_39 : decode cL_law 39 = .ok (.iload 5, 2) := by decide +kernel
theorem dL_law_41 : decode cL_law 41 = .ok (.iaload, 1) := by decide +kernel
theorem dL_law_42 : decode cL_law 42 = .ok (.bipush 31, 2) := by decide +kernel
theorem dL_law_44 : decode cL_law 44 = .ok (.iand, 1) := by decide +kernel
theorem dL_law_45 : decode cL_law 45 = .ok (.tableswitch 1630 0 27 #[127, 200, 256, 269, 325, 338, 394, 462, 542, 622, 678, 734, 802, 858, 926, 982, 995, 1036, 1113, 1126, 1182, 1238, 1306, 1374, 1442, 1498, 1511, 1574], 127) := by decide +kernel
theorem dL_law_172 : decode cL_law 172 = .ok (.aload_n 1, 1) := by decide +kernel
theorem dL_law_173 : decode cL_law 173 = .ok (.aload_n 0, 1) := by decide +kernel
theorem dL_law_174 : decode cL_law 174 = .ok (.iload 5, 2) := by decide +kernel
theorem dL_law_176 : decode cL_law 176 = .ok (.iconst 1, 1) := by decide +kernel
theorem dL_law_177 : decode cL_law 177 = .ok (.iadd, 1) := by decide +kernel
theorem dL_law_178 : decode cL_law 178 = .ok (.iaload, 1) := by decide +kernel
theorem dL_law_179 : decode cL_law 179 = .ok (.aload_n 0, 1) := by decide +kernel
theorem dL_law_180 : decode cL_law 180 = .ok (.iload 5, 2) := by decide +kernel
theorem dL_law_182 : decode cL_law 182 = .ok (.iconst 2, 1) := by decide +kernel
theorem dL_law_183 : decode cL_law 183 = .ok (.iadd, 1) := by decide +kernel
theorem dL_law_184 : decode cL_law 184 = .ok (.iaload, 1) := by decide +kernel
theorem dL_law_185 : decode cL_law 185 = .ok (.aload_n 0, 1) := by decide +kernel
theorem dL_law_186 : decode cL_law 186 = .ok (.iload 5, 2) := by decide +kernel
theorem dL_law_188 : decode cL_law 188 = .ok (.iconst 3, 1) := by decide +kernel
theorem dL_law_189 : decode cL_law 189 = .ok (.iadd, 1) := by decide +kernel
theorem dL_law_190 : decode cL_law 190 = .ok (.iaload, 1) := by decide +kernel
theorem dL_law_191 : decode cL_law 191 = .ok (.aload_n 0, 1) := by decide +kernel
theorem dL_law_192 : decode cL_law 192 = .ok (.iload 5, 2) := by decide +kernel
theorem dL_law_194 : decode cL_law 194 = .ok (.iconst 4, 1) := by decide +kernel
theorem dL_law_195 : decode cL_law 195 = .ok (.iadd, 1) := by decide +kernel
theorem dL_law_196 : decode cL_law 196 = .ok (.iaload, 1) := by decide +kernel
theorem dL_law_197 : decode cL_law 197 = .ok (.aload_n 0, 1) := by decide +kernel
theorem dL_law_198 : decode cL_law 198 = .ok (.iload 5, 2) := by decide +kernel
theorem dL_law_200 : decode cL_law 200 = .ok (.iconst 5, 1) := by decide +kernel
theorem dL_law_201 : decode cL_law 201 = .ok (.iadd, 1) := by decide +kernel
theorem dL_law_202 : decode cL_law 202 = .ok (.iaload, 1) := by decide +kernel
theorem dL_law_203 : decode cL_law 203 = .ok (.invokevirtual 87, 3) := by decide +kernel
theorem dL_law_206 : decode cL_law 206 = .ok (.aload_n 2, 1) := by decide +kernel
theorem dL_law_207 : decode cL_law 207 = .ok (.aload_n 0, 1) := by decide +kernel
theorem dL_law_208 : decode cL_law 208 = .ok (.iload 5, 2) := by decide +kernel
theorem dL_law_210 : decode cL_law 210 = .ok (.iconst 1, 1) := by decide +kernel
theorem dL_law_211 : decode cL_law 211 = .ok (.iadd, 1) := by decide +kernel
theorem dL_law_212 : decode cL_law 212 = .ok (.iaload, 1) := by decide +kernel
theorem dL_law_213 : decode cL_law 213 = .ok (.aload_n 0, 1) := by decide +kernel
theorem dL_law_214 : decode cL_law 214 = .ok (.iload 5, 2) := by decide +kernel
theorem dL_law_216 : decode cL_law 216 = .ok (.iconst 2, 1) := by decide +kernel
theorem dL_law_217 : decode cL_law 217 = .ok (.iadd, 1) := by decide +kernel
theorem dL_law_218 : decode cL_law 218 = .ok (.iaload, 1) := by decide +kernel
theorem dL_law_219 : decode cL_law 219 = .ok (.aload_n 0, 1) := by decide +kernel
theorem dL_law_220 : decode cL_law 220 = .ok (.iload 5, 2) := by decide +kernel
theorem dL_law_222 : decode cL_law 222 = .ok (.iconst 3, 1) := by decide +kernel
theorem dL_law_223 : decode cL_law 223 = .ok (.iadd, 1) := by decide +kernel
theorem dL_law_224 : decode cL_law 224 = .ok (.iaload, 1) := by decide +kernel
theorem dL_law_225 : decode cL_law 225 = .ok (.aload_n 0, 1) := by decide +kernel
theorem dL_law_226 : decode cL_law 226 = .ok (.iload 5, 2) := by decide +kernel
theorem dL_law_228 : decode cL_law 228 = .ok (.iconst 4, 1) := by decide +kernel
theorem dL_law_229 : decode cL_law 229 = .ok (.iadd, 1) := by decide +kernel
theorem dL_law_230 : decode cL_law 230 = .ok (.iaload, 1) := by decide +kernel
theorem dL_law_231 : decode cL_law 231 = .ok (.aload_n 0, 1) := by decide +kernel
theorem dL_law_232 : decode cL_law 232 = .ok (.iload 5, 2) := by decide +kernel
theorem dL_law_234 : decode cL_law 234 = .ok (.iconst 5, 1) := by decide +kernel
theorem dL_law_235 : decode cL_law 235 = .ok (.iadd, 1) := by decide +kernel
theorem dL_law_236 : decode cL_law 236 = .ok (.iaload, 1) := by decide +kernel
theorem dL_law_237 : decode cL_law 237 = .ok (.invokevirtual 91, 3) := by decide +kernel
theorem dL_law_240 : decode cL_law 240 = .ok (.if_icmp .eq 1435, 3) := by decide +kernel
theorem dL_law_243 : decode cL_law 243 = .ok (.iconst 0, 1) := by decide +kernel
theorem dL_law_244 : decode cL_law 244 = .ok (.ireturn, 1) := by decide +kernel
theorem dL_law_245 : decode cL_law 245 = .ok (.aload_n 1, 1) := by decide +kernel
theorem dL_law_246 : decode cL_law 246 = .ok (.aload_n 0, 1) := by decide +kernel
theorem dL_law_247 : decode cL_law 247 = .ok (.iload 5, 2) := by decide +kernel
theorem dL_law_249 : decode cL_law 249 = .ok (.iconst 1, 1) := by decide +kernel
theorem dL_law_250 : decode cL_law 250 = .ok (.iadd, 1) := by decide +kernel
theorem dL_law_251 : decode cL_law 251 = .ok (.iaload, 1) := by decide +kernel
theorem dL_law_252 : decode cL_law 252 = .ok (.aload_n 3, 1) := by decide +kernel
theorem dL_law_253 : decode cL_law 253 = .ok (.invokestatic 92, 3) := by decide +kernel
theorem dL_law_256 : decode cL_law 256 = .ok (.istore 6, 2) := by decide +kernel
theorem dL_law_258 : decode cL_law 258 = .ok (.aload_n 2, 1) := by decide +kernel
theorem dL_law_259 : decode cL_law 259 = .ok (.aload_n 0, 1) := by decide +kernel
theorem dL_law_260 : decode cL_law 260 = .ok (.iload 5, 2) := by decide +kernel
theorem dL_law_262 : decode cL_law 262 = .ok (.iconst 1, 1) := by decide +kernel
theorem dL_law_263 : decode cL_law 263 = .ok (.iadd, 1) := by decide +kernel
theorem dL_law_264 : decode cL_law 264 = .ok (.iaload, 1) := by decide +kernel
theorem dL_law_265 : decode cL_law 265 = .ok (.invokevirtual 97, 3) := by decide +kernel
theorem dL_law_268 : decode cL_law 268 = .ok (.istore 7, 2) := by decide +kernel
theorem dL_law_270 : decode cL_law 270 = .ok (.aload_n 2, 1) := by decide +kernel
theorem dL_law_271 : decode cL_law 271 = .ok (.invokevirtual 98, 3) := by decide +kernel
theorem dL_law_274 : decode cL_law 274 = .ok (.iload 6, 2) := by decide +kernel
theorem dL_law_276 : decode cL_law 276 = .ok (.if_icmp .eq 5, 3) := by decide +kernel
theorem dL_law_279 : decode cL_law 279 = .ok (.iconst 0, 1) := by decide +kernel
theorem dL_law_280 : decode cL_law 280 = .ok (.ireturn, 1) := by decide +kernel
theorem dL_law_281 : decode cL_law 281 = .ok (.iload 6, 2) := by decide +kernel
theorem dL_law_283 : decode cL_law 283 = .ok (.ifCond .ne 15, 3) := by decide +kernel
theorem dL_law_286 : decode cL_law 286 = .ok (.aload_n 3, 1) := by decide +kernel
theorem dL_law_287 : decode cL_law 287 = .ok (.iconst 0, 1) := by decide +kernel
theorem dL_law_288 : decode cL_law 288 = .ok (.laload, 1) := by decide +kernel
theorem dL_law_289 : decode cL_law 289 = .ok (.iload 7, 2) := by decide +kernel
theorem dL_law_291 : decode cL_law 291 = .ok (.i2l, 1) := by decide +kernel
theorem dL_law_292 : decode cL_law 292 = .ok (.lcmp, 1) := by decide +kernel
theorem dL_law_293 : decode cL_law 293 = .ok (.ifCond .eq 5, 3) := by decide +kernel
theorem dL_law_296 : decode cL_law 296 = .ok (.iconst 0, 1) := by decide +kernel
theorem dL_law_297 : decode cL_law 297 = .ok (.ireturn, 1) := by decide +kernel
theorem dL_law_298 : decode cL_law 298 = .ok (.goto 1377, 3) := by decide +kernel
theorem dL_law_301 : decode cL_law 301 = .ok (.aload_n 1, 1) := by decide +kernel
theorem dL_law_302 : decode cL_law 302 = .ok (.invokevirtual 102, 3) := by decide +kernel
theorem dL_law_305 : decode cL_law 305 = .ok (.aload_n 2, 1) := by decide +kernel
theorem dL_law_306 : decode cL_law 306 = .ok (.invokevirtual 105, 3) := by decide +kernel
theorem dL_law_309 : decode cL_law 309 = .ok (.if_icmp .eq 1366, 3) := by decide +kernel
theorem dL_law_312 : decode cL_law 312 = .ok (.iconst 0, 1) := by decide +kernel
theorem dL_law_313 : decode cL_law 313 = .ok (.ireturn, 1) := by decide +kernel
theorem dL_law_314 : decode cL_law 314 = .ok (.aload_n 1, 1) := by decide +kernel
theorem dL_law_315 : decode cL_law 315 = .ok (.aload_n 0, 1) := by decide +kernel
theorem dL_law_316 : decode cL_law 316 = .ok (.iload 5, 2) := by decide +kernel
theorem dL_law_318 : decode cL_law 318 = .ok (.iconst 1, 1) := by decide +kernel
theorem dL_law_319 : decode cL_law 319 = .ok (.iadd, 1) := by decide +kernel
theorem dL_law_320 : decode cL_law 320 = .ok (.iaload, 1) := by decide +kernel
theorem dL_law_321 : decode cL_law 321 = .ok (.aload_n 3, 1) := by decide +kernel
theorem dL_law_322 : decode cL_law 322 = .ok (.invokestatic 106, 3) := by decide +kernel
theorem dL_law_325 : decode cL_law 325 = .ok (.istore 6, 2) := by decide +kernel
theorem dL_law_327 : decode cL_law 327 = .ok (.aload_n 2, 1) := by decide +kernel
theorem dL_law_328 : decode cL_law 328 = .ok (.aload_n 0, 1) := by decide +kernel
theorem dL_law_329 : decode cL_law 329 = .ok (.iload 5, 2) := by decide +kernel
theorem dL_law_331 : decode cL_law 331 = .ok (.iconst 1, 1) := by decide +kernel
theorem dL_law_332 : decode cL_law 332 = .ok (.iadd, 1) := by decide +kernel
theorem dL_law_333 : decode cL_law 333 = .ok (.iaload, 1) := by decide +kernel
theorem dL_law_334 : decode cL_law 334 = .ok (.invokevirtual 108, 3) := by decide +kernel
theorem dL_law_337 : decode cL_law 337 = .ok (.istore 7, 2) := by decide +kernel
theorem dL_law_339 : decode cL_law 339 = .ok (.aload_n 2, 1) := by decide +kernel
theorem dL_law_340 : decode cL_law 340 = .ok (.invokevirtual 98, 3) := by decide +kernel
theorem dL_law_343 : decode cL_law 343 = .ok (.iload 6, 2) := by decide +kernel
theorem dL_law_345 : decode cL_law 345 = .ok (.if_icmp .eq 5, 3) := by decide +kernel
theorem dL_law_348 : decode cL_law 348 = .ok (.iconst 0, 1) := by decide +kernel
theorem dL_law_349 : decode cL_law 349 = .ok (.ireturn, 1) := by decide +kernel
theorem dL_law_350 : decode cL_law 350 = .ok (.iload 6, 2) := by decide +kernel
theorem dL_law_352 : decode cL_law 352 = .ok (.ifCond .ne 15, 3) := by decide +kernel
theorem dL_law_355 : decode cL_law 355 = .ok (.aload_n 3, 1) := by decide +kernel
theorem dL_law_356 : decode cL_law 356 = .ok (.iconst 0, 1) := by decide +kernel
theorem dL_law_357 : decode cL_law 357 = .ok (.laload, 1) := by decide +kernel
theorem dL_law_358 : decode cL_law 358 = .ok (.iload 7, 2) := by decide +kernel
theorem dL_law_360 : decode cL_law 360 = .ok (.i2l, 1) := by decide +kernel
theorem dL_law_361 : decode cL_law 361 = .ok (.lcmp, 1) := by decide +kernel
theorem dL_law_362 : decode cL_law 362 = .ok (.ifCond .eq 5, 3) := by decide +kernel
theorem dL_law_365 : decode cL_law 365 = .ok (.iconst 0, 1) := by decide +kernel
theorem dL_law_366 : decode cL_law 366 = .ok (.ireturn, 1) := by decide +kernel
theorem dL_law_367 : decode cL_law 367 = .ok (.goto 1308, 3) := by decide +kernel
theorem dL_law_370 : decode cL_law 370 = .ok (.aload_n 1, 1) := by decide +kernel
theorem dL_law_371 : decode cL_law 371 = .ok (.invokevirtual 109, 3) := by decide +kernel
theorem dL_law_374 : decode cL_law 374 = .ok (.aload_n 2, 1) := by decide +kernel
theorem dL_law_375 : decode cL_law 375 = .ok (.invokevirtual 112, 3) := by decide +kernel
theorem dL_law_378 : decode cL_law 378 = .ok (.if_icmp .eq 1297, 3) := by decide +kernel
theorem dL_law_381 : decode cL_law 381 = .ok (.iconst 0, 1) := by decide +kernel
theorem dL_law_382 : decode cL_law 382 = .ok (.ireturn, 1) := by decide +kernel
theorem dL_law_383 : decode cL_law 383 = .ok (.aload_n 1, 1) := by decide +kernel
theorem dL_law_384 : decode cL_law 384 = .ok (.aload_n 0, 1) := by decide +kernel
theorem dL_law_385 : decode cL_law 385 = .ok (.iload 5, 2) := by decide +kernel
theorem dL_law_387 : decode cL_law 387 = .ok (.iconst 1, 1) := by decide +kernel
theorem dL_law_388 : decode cL_law 388 = .ok (.iadd, 1) := by decide +kernel
theorem dL_law_389 : decode cL_law 389 = .ok (.iaload, 1) := by decide +kernel
theorem dL_law_390 : decode cL_law 390 = .ok (.aload_n 3, 1) := by decide +kernel
theorem dL_law_391 : decode cL_law 391 = .ok (.invokestatic 113, 3) := by decide +kernel
theorem dL_law_394 : decode cL_law 394 = .ok (.istore 6, 2) := by decide +kernel
theorem dL_law_396 : decode cL_law 396 = .ok (.aload_n 2, 1) := by decide +kernel
theorem dL_law_397 : decode cL_law 397 = .ok (.aload_n 0, 1) := by decide +kernel
theorem dL_law_398 : decode cL_law 398 = .ok (.iload 5, 2) := by decide +kernel
theorem dL_law_400 : decode cL_law 400 = .ok (.iconst 1, 1) := by decide +kernel
theorem dL_law_401 : decode cL_law 401 = .ok (.iadd, 1) := by decide +kernel
theorem dL_law_402 : decode cL_law 402 = .ok (.iaload, 1) := by decide +kernel
theorem dL_law_403 : decode cL_law 403 = .ok (.invokevirtual 115, 3) := by decide +kernel
theorem dL_law_406 : decode cL_law 406 = .ok (.istore 7, 2) := by decide +kernel
theorem dL_law_408 : decode cL_law 408 = .ok (.aload_n 2, 1) := by decide +kernel
theorem dL_law_409 : decode cL_law 409 = .ok (.invokevirtual 98, 3) := by decide +kernel
theorem dL_law_412 : decode cL_law 412 = .ok (.iload 6, 2) := by decide +kernel
theorem dL_law_414 : decode cL_law 414 = .ok (.if_icmp .eq 5, 3) := by decide +kernel
theorem dL_law_417 : decode cL_law 417 = .ok (.iconst 0, 1) := by decide +kernel
theorem dL_law_418 : decode cL_law 418 = .ok (.ireturn, 1) := by decide +kernel
theorem dL_law_419 : decode cL_law 419 = .ok (.iload 6, 2) := by decide +kernel
theorem dL_law_421 : decode cL_law 421 = .ok (.ifCond .ne 15, 3) := by decide +kernel
theorem dL_law_424 : decode cL_law 424 = .ok (.aload_n 3, 1) := by decide +kernel
theorem dL_law_425 : decode cL_law 425 = .ok (.iconst 0, 1) := by decide +kernel
theorem dL_law_426 : decode cL_law 426 = .ok (.laload, 1) := by decide +kernel
theorem dL_law_427 : decode cL_law 427 = .ok (.iload 7, 2) := by decide +kernel
theorem dL_law_429 : decode cL_law 429 = .ok (.i2l, 1) := by decide +kernel
theorem dL_law_430 : decode cL_law 430 = .ok (.lcmp, 1) := by decide +kernel
theorem dL_law_431 : decode cL_law 431 = .ok (.ifCond .eq 5, 3) := by decide +kernel
theorem dL_law_434 : decode cL_law 434 = .ok (.iconst 0, 1) := by decide +kernel
theorem dL_law_435 : decode cL_law 435 = .ok (.ireturn, 1) := by decide +kernel
theorem dL_law_436 : decode cL_law 436 = .ok (.goto 1239, 3) := by decide +kernel
theorem dL_law_439 : decode cL_law 439 = .ok (.aload_n 1, 1) := by decide +kernel
theorem dL_law_440 : decode cL_law 440 = .ok (.aload_n 0, 1) := by decide +kernel
theorem dL_law_441 : decode cL_law 441 = .ok (.iload 5, 2) := by decide +kernel
theorem dL_law_443 : decode cL_law 443 = .ok (.iconst 1, 1) := by decide +kernel
theorem dL_law_444 : decode cL_law 444 = .ok (.iadd, 1) := by decide +kernel
theorem dL_law_445 : decode cL_law 445 = .ok (.iaload, 1) := by decide +kernel
theorem dL_law_446 : decode cL_law 446 = .ok (.aload_n 0, 1) := by decide +kernel
theorem dL_law_447 : decode cL_law 447 = .ok (.iload 5, 2) := by decide +kernel
theorem dL_law_449 : decode cL_law 449 = .ok (.iconst 2, 1) := by decide +kernel
theorem dL_law_450 : decode cL_law 450 = .ok (.iadd, 1) := by decide +kernel
theorem dL_law_451 : decode cL_law 451 = .ok (.iaload, 1) := by decide +kernel
theorem dL_law_452 : decode cL_law 452 = .ok (.aload_n 3, 1) := by decide +kernel
theorem dL_law_453 : decode cL_law 453 = .ok (.invokestatic 116, 3) := by decide +kernel
theorem dL_law_456 : decode cL_law 456 = .ok (.istore 6, 2) := by decide +kernel
theorem dL_law_458 : decode cL_law 458 = .ok (.aload_n 2, 1) := by decide +kernel
theorem dL_law_459 : decode cL_law 459 = .ok (.aload_n 0, 1) := by decide +kernel
theorem dL_law_460 : decode cL_law 460 = .ok (.iload 5, 2) := by decide +kernel
theorem dL_law_462 : decode cL_law 462 = .ok (.iconst 1, 1) := by decide +kernel
theorem dL_law_463 : decode cL_law 463 = .ok (.iadd, 1) := by decide +kernel
theorem dL_law_464 : decode cL_law 464 = .ok (.iaload, 1) := by decide +kernel
theorem dL_law_465 : decode cL_law 465 = .ok (.aload_n 0, 1) := by decide +kernel
theorem dL_law_466 : decode cL_law 466 = .ok (.iload 5, 2) := by decide +kernel
theorem dL_law_468 : decode cL_law 468 = .ok (.iconst 2, 1) := by decide +kernel
theorem dL_law_469 : decode cL_law 469 = .ok (.iadd, 1) := by decide +kernel
theorem dL_law_470 : decode cL_law 470 = .ok (.iaload, 1) := by decide +kernel
theorem dL_law_471 : decode cL_law 471 = .ok (.invokevirtual 119, 3) := by decide +kernel
theorem dL_law_474 : decode cL_law 474 = .ok (.istore 7, 2) := by decide +kernel
theorem dL_law_476 : decode cL_law 476 = .ok (.aload_n 2, 1) := by decide +kernel
theorem dL_law_477 : decode cL_law 477 = .ok (.invokevirtual 98, 3) := by decide +kernel
theorem dL_law_480 : decode cL_law 480 = .ok (.iload 6, 2) := by decide +kernel
theorem dL_law_482 : decode cL_law 482 = .ok (.if_icmp .eq 5, 3) := by decide +kernel
theorem dL_law_485 : decode cL_law 485 = .ok (.iconst 0, 1) := by decide +kernel
theorem dL_law_486 : decode cL_law 486 = .ok (.ireturn, 1) := by decide +kernel
theorem dL_law_487 : decode cL_law 487 = .ok (.iload 6, 2) := by decide +kernel
theorem dL_law_489 : decode cL_law 489 = .ok (.ifCond .ne 15, 3) := by decide +kernel
theorem dL_law_492 : decode cL_law 492 = .ok (.aload_n 3, 1) := by decide +kernel
theorem dL_law_493 : decode cL_law 493 = .ok (.iconst 0, 1) := by decide +kernel
theorem dL_law_494 : decode cL_law 494 = .ok (.laload, 1) := by decide +kernel
theorem dL_law_495 : decode cL_law 495 = .ok (.iload 7, 2) := by decide +kernel
theorem dL_law_497 : decode cL_law 497 = .ok (.i2l, 1) := by decide +kernel
theorem dL_law_498 : decode cL_law 498 = .ok (.lcmp, 1) := by decide +kernel
theorem dL_law_499 : decode cL_law 499 = .ok (.ifCond .eq 5, 3) := by decide +kernel
theorem dL_law_502 : decode cL_law 502 = .ok (.iconst 0, 1) := by decide +kernel
theorem dL_law_503 : decode cL_law 503 = .ok (.ireturn, 1) := by decide +kernel
theorem dL_law_504 : decode cL_law 504 = .ok (.goto 1171, 3) := by decide +kernel
theorem dL_law_507 : decode cL_law 507 = .ok (.aload_n 1, 1) := by decide +kernel
theorem dL_law_508 : decode cL_law 508 = .ok (.aload_n 0, 1) := by decide +kernel
theorem dL_law_509 : decode cL_law 509 = .ok (.iload 5, 2) := by decide +kernel
theorem dL_law_511 : decode cL_law 511 = .ok (.iconst 1, 1) := by decide +kernel
theorem dL_law_512 : decode cL_law 512 = .ok (.iadd, 1) := by decide +kernel
theorem dL_law_513 : decode cL_law 513 = .ok (.iaload, 1) := by decide +kernel
theorem dL_law_514 : decode cL_law 514 = .ok (.aload_n 0, 1) := by decide +kernel
theorem dL_law_515 : decode cL_law 515 = .ok (.iload 5, 2) := by decide +kernel
theorem dL_law_517 : decode cL_law 517 = .ok (.iconst 2, 1) := by decide +kernel
theorem dL_law_518 : decode cL_law 518 = .ok (.iadd, 1) := by decide +kernel
theorem dL_law_519 : decode cL_law 519 = .ok (.iaload, 1) := by decide +kernel
theorem dL_law_520 : decode cL_law 520 = .ok (.aload_n 0, 1) := by decide +kernel
theorem dL_law_521 : decode cL_law 521 = .ok (.iload 5, 2) := by decide +kernel
theorem dL_law_523 : decode cL_law 523 = .ok (.iconst 3, 1) := by decide +kernel
theorem dL_law_524 : decode cL_law 524 = .ok (.iadd, 1) := by decide +kernel
theorem dL_law_525 : decode cL_law 525 = .ok (.iaload, 1) := by decide +kernel
theorem dL_law_526 : decode cL_law 526 = .ok (.aload_n 3, 1) := by decide +kernel
theorem dL_law_527 : decode cL_law 527 = .ok (.invokestatic 120, 3) := by decide +kernel
theorem dL_law_530 : decode cL_law 530 = .ok (.istore 6, 2) := by decide +kernel
theorem dL_law_532 : decode cL_law 532 = .ok (.aload_n 2, 1) := by decide +kernel
theorem dL_law_533 : decode cL_law 533 = .ok (.aload_n 0, 1) := by decide +kernel
theorem dL_law_534 : decode cL_law 534 = .ok (.iload 5, 2) := by decide +kernel
theorem dL_law_536 : decode cL_law 536 = .ok (.iconst 1, 1) := by decide +kernel
theorem dL_law_537 : decode cL_law 537 = .ok (.iadd, 1) := by decide +kernel
theorem dL_law_538 : decode cL_law 538 = .ok (.iaload, 1) := by decide +kernel
theorem dL_law_539 : decode cL_law 539 = .ok (.aload_n 0, 1) := by decide +kernel
theorem dL_law_540 : decode cL_law 540 = .ok (.iload 5, 2) := by decide +kernel
theorem dL_law_542 : decode cL_law 542 = .ok (.iconst 2, 1) := by decide +kernel
theorem dL_law_543 : decode cL_law 543 = .ok (.iadd, 1) := by decide +kernel
theorem dL_law_544 : decode cL_law 544 = .ok (.iaload, 1) := by decide +kernel
theorem dL_law_545 : decode cL_law 545 = .ok (.aload_n 0, 1) := by decide +kernel
theorem dL_law_546 : decode cL_law 546 = .ok (.iload 5, 2) := by decide +kernel
theorem dL_law_548 : decode cL_law 548 = .ok (.iconst 3, 1) := by decide +kernel
theorem dL_law_549 : decode cL_law 549 = .ok (.iadd, 1) := by decide +kernel
theorem dL_law_550 : decode cL_law 550 = .ok (.iaload, 1) := by decide +kernel
theorem dL_law_551 : decode cL_law 551 = .ok (.invokevirtual 123, 3) := by decide +kernel
theorem dL_law_554 : decode cL_law 554 = .ok (.istore 7, 2) := by decide +kernel
theorem dL_law_556 : decode cL_law 556 = .ok (.aload_n 2, 1) := by decide +kernel
theorem dL_law_557 : decode cL_law 557 = .ok (.invokevirtual 98, 3) := by decide +kernel
theorem dL_law_560 : decode cL_law 560 = .ok (.iload 6, 2) := by decide +kernel
theorem dL_law_562 : decode cL_law 562 = .ok (.if_icmp .eq 5, 3) := by decide +kernel
theorem dL_law_565 : decode cL_law 565 = .ok (.iconst 0, 1) := by decide +kernel
theorem dL_law_566 : decode cL_law 566 = .ok (.ireturn, 1) := by decide +kernel
theorem dL_law_567 : decode cL_law 567 = .ok (.iload 6, 2) := by decide +kernel
theorem dL_law_569 : decode cL_law 569 = .ok (.ifCond .ne 15, 3) := by decide +kernel
theorem dL_law_572 : decode cL_law 572 = .ok (.aload_n 3, 1) := by decide +kernel
theorem dL_law_573 : decode cL_law 573 = .ok (.iconst 0, 1) := by decide +kernel
theorem dL_law_574 : decode cL_law 574 = .ok (.laload, 1) := by decide +kernel
theorem dL_law_575 : decode cL_law 575 = .ok (.iload 7, 2) := by decide +kernel
theorem dL_law_577 : decode cL_law 577 = .ok (.i2l, 1) := by decide +kernel
theorem dL_law_578 : decode cL_law 578 = .ok (.lcmp, 1) := by decide +kernel
theorem dL_law_579 : decode cL_law 579 = .ok (.ifCond .eq 5, 3) := by decide +kernel
theorem dL_law_582 : decode cL_law 582 = .ok (.iconst 0, 1) := by decide +kernel
theorem dL_law_583 : decode cL_law 583 = .ok (.ireturn, 1) := by decide +kernel
theorem dL_law_584 : decode cL_law 584 = .ok (.goto 1091, 3) := by decide +kernel
theorem dL_law_587 : decode cL_law 587 = .ok (.aload_n 1, 1) := by decide +kernel
theorem dL_law_588 : decode cL_law 588 = .ok (.aload_n 0, 1) := by decide +kernel
theorem dL_law_589 : decode cL_law 589 = .ok (.iload 5, 2) := by decide +kernel
theorem dL_law_591 : decode cL_law 591 = .ok (.iconst 1, 1) := by decide +kernel
theorem dL_law_592 : decode cL_law 592 = .ok (.iadd, 1) := by decide +kernel
theorem dL_law_593 : decode cL_law 593 = .ok (.iaload, 1) := by decide +kernel
theorem dL_law_594 : decode cL_law 594 = .ok (.aload_n 0, 1) := by decide +kernel
theorem dL_law_595 : decode cL_law 595 = .ok (.iload 5, 2) := by decide +kernel
theorem dL_law_597 : decode cL_law 597 = .ok (.iconst 2, 1) := by decide +kernel
theorem dL_law_598 : decode cL_law 598 = .ok (.iadd, 1) := by decide +kernel
theorem dL_law_599 : decode cL_law 599 = .ok (.iaload, 1) := by decide +kernel
theorem dL_law_600 : decode cL_law 600 = .ok (.aload_n 0, 1) := by decide +kernel
theorem dL_law_601 : decode cL_law 601 = .ok (.iload 5, 2) := by decide +kernel
theorem dL_law_603 : decode cL_law 603 = .ok (.iconst 3, 1) := by decide +kernel
theorem dL_law_604 : decode cL_law 604 = .ok (.iadd, 1) := by decide +kernel
theorem dL_law_605 : decode cL_law 605 = .ok (.iaload, 1) := by decide +kernel
theorem dL_law_606 : decode cL_law 606 = .ok (.aload_n 3, 1) := by decide +kernel
theorem dL_law_607 : decode cL_law 607 = .ok (.invokestatic 124, 3) := by decide +kernel
theorem dL_law_610 : decode cL_law 610 = .ok (.istore 6, 2) := by decide +kernel
theorem dL_law_612 : decode cL_law 612 = .ok (.aload_n 2, 1) := by decide +kernel
theorem dL_law_613 : decode cL_law 613 = .ok (.aload_n 0, 1) := by decide +kernel
theorem dL_law_614 : decode cL_law 614 = .ok (.iload 5, 2) := by decide +kernel
theorem dL_law_616 : decode cL_law 616 = .ok (.iconst 1, 1) := by decide +kernel
theorem dL_law_617 : decode cL_law 617 = .ok (.iadd, 1) := by decide +kernel
theorem dL_law_618 : decode cL_law 618 = .ok (.iaload, 1) := by decide +kernel
theorem dL_law_619 : decode cL_law 619 = .ok (.aload_n 0, 1) := by decide +kernel
theorem dL_law_620 : decode cL_law 620 = .ok (.iload 5, 2) := by decide +kernel
theorem dL_law_622 : decode cL_law 622 = .ok (.iconst 2, 1) := by decide +kernel
theorem dL_law_623 : decode cL_law 623 = .ok (.iadd, 1) := by decide +kernel
theorem dL_law_624 : decode cL_law 624 = .ok (.iaload, 1) := by decide +kernel
theorem dL_law_625 : decode cL_law 625 = .ok (.aload_n 0, 1) := by decide +kernel
theorem dL_law_626 : decode cL_law 626 = .ok (.iload 5, 2) := by decide +kernel
theorem dL_law_628 : decode cL_law 628 = .ok (.iconst 3, 1) := by decide +kernel
theorem dL_law_629 : decode cL_law 629 = .ok (.iadd, 1) := by decide +kernel
theorem dL_law_630 : decode cL_law 630 = .ok (.iaload, 1) := by decide +kernel
theorem dL_law_631 : decode cL_law 631 = .ok (.invokevirtual 126, 3) := by decide +kernel
theorem dL_law_634 : decode cL_law 634 = .ok (.istore 7, 2) := by decide +kernel
theorem dL_law_636 : decode cL_law 636 = .ok (.aload_n 2, 1) := by decide +kernel
theorem dL_law_637 : decode cL_law 637 = .ok (.invokevirtual 98, 3) := by decide +kernel
theorem dL_law_640 : decode cL_law 640 = .ok (.iload 6, 2) := by decide +kernel
theorem dL_law_642 : decode cL_law 642 = .ok (.if_icmp .eq 5, 3) := by decide +kernel
theorem dL_law_645 : decode cL_law 645 = .ok (.iconst 0, 1) := by decide +kernel
theorem dL_law_646 : decode cL_law 646 = .ok (.ireturn, 1) := by decide +kernel
theorem dL_law_647 : decode cL_law 647 = .ok (.iload 6, 2) := by decide +kernel
theorem dL_law_649 : decode cL_law 649 = .ok (.ifCond .ne 15, 3) := by decide +kernel
theorem dL_law_652 : decode cL_law 652 = .ok (.aload_n 3, 1) := by decide +kernel
theorem dL_law_653 : decode cL_law 653 = .ok (.iconst 0, 1) := by decide +kernel
theorem dL_law_654 : decode cL_law 654 = .ok (.laload, 1) := by decide +kernel
theorem dL_law_655 : decode cL_law 655 = .ok (.iload 7, 2) := by decide +kernel
theorem dL_law_657 : decode cL_law 657 = .ok (.i2l, 1) := by decide +kernel
theorem dL_law_658 : decode cL_law 658 = .ok (.lcmp, 1) := by decide +kernel
theorem dL_law_659 : decode cL_law 659 = .ok (.ifCond .eq 5, 3) := by decide +kernel
theorem dL_law_662 : decode cL_law 662 = .ok (.iconst 0, 1) := by decide +kernel
theorem dL_law_663 : decode cL_law 663 = .ok (.ireturn, 1) := by decide +kernel
theorem dL_law_664 : decode cL_law 664 = .ok (.goto 1011, 3) := by decide +kernel
theorem dL_law_667 : decode cL_law 667 = .ok (.aload_n 1, 1) := by decide +kernel
theorem dL_law_668 : decode cL_law 668 = .ok (.aload_n 0, 1) := by decide +kernel
theorem dL_law_669 : decode cL_law 669 = .ok (.iload 5, 2) := by decide +kernel
theorem dL_law_671 : decode cL_law 671 = .ok (.iconst 1, 1) := by decide +kernel
theorem dL_law_672 : decode cL_law 672 = .ok (.iadd, 1) := by decide +kernel
theorem dL_law_673 : decode cL_law 673 = .ok (.iaload, 1) := by decide +kernel
theorem dL_law_674 : decode cL_law 674 = .ok (.aload_n 3, 1) := by decide +kernel
theorem dL_law_675 : decode cL_law 675 = .ok (.invokestatic 127, 3) := by decide +kernel
theorem dL_law_678 : decode cL_law 678 = .ok (.istore 6, 2) := by decide +kernel
theorem dL_law_680 : decode cL_law 680 = .ok (.aload_n 2, 1) := by decide +kernel
theorem dL_law_681 : decode cL_law 681 = .ok (.aload_n 0, 1) := by decide +kernel
theorem dL_law_682 : decode cL_law 682 = .ok (.iload 5, 2) := by decide +kernel
theorem dL_law_684 : decode cL_law 684 = .ok (.iconst 1, 1) := by decide +kernel
theorem dL_law_685 : decode cL_law 685 = .ok (.iadd, 1) := by decide +kernel
theorem dL_law_686 : decode cL_law 686 = .ok (.iaload, 1) := by decide +kernel
theorem dL_law_687 : decode cL_law 687 = .ok (.invokevirtual 129, 3) := by decide +kernel
theorem dL_law_690 : decode cL_law 690 = .ok (.istore 7, 2) := by decide +kernel
theorem dL_law_692 : decode cL_law 692 = .ok (.aload_n 2, 1) := by decide +kernel
theorem dL_law_693 : decode cL_law 693 = .ok (.invokevirtual 98, 3) := by decide +kernel
theorem dL_law_696 : decode cL_law 696 = .ok (.iload 6, 2) := by decide +kernel
theorem dL_law_698 : decode cL_law 698 = .ok (.if_icmp .eq 5, 3) := by decide +kernel
theorem dL_law_701 : decode cL_law 701 = .ok (.iconst 0, 1) := by decide +kernel
theorem dL_law_702 : decode cL_law 702 = .ok (.ireturn, 1) := by decide +kernel
theorem dL_law_703 : decode cL_law 703 = .ok (.iload 6, 2) := by decide +kernel
theorem dL_law_705 : decode cL_law 705 = .ok (.ifCond .ne 15, 3) := by decide +kernel
theorem dL_law_708 : decode cL_law 708 = .ok (.aload_n 3, 1) := by decide +kernel
theorem dL_law_709 : decode cL_law 709 = .ok (.iconst 0, 1) := by decide +kernel
theorem dL_law_710 : decode cL_law 710 = .ok (.laload, 1) := by decide +kernel
theorem dL_law_711 : decode cL_law 711 = .ok (.iload 7, 2) := by decide +kernel
theorem dL_law_713 : decode cL_law 713 = .ok (.i2l, 1) := by decide +kernel
theorem dL_law_714 : decode cL_law 714 = .ok (.lcmp, 1) := by decide +kernel
theorem dL_law_715 : decode cL_law 715 = .ok (.ifCond .eq 5, 3) := by decide +kernel
theorem dL_law_718 : decode cL_law 718 = .ok (.iconst 0, 1) := by decide +kernel
theorem dL_law_719 : decode cL_law 719 = .ok (.ireturn, 1) := by decide +kernel
theorem dL_law_720 : decode cL_law 720 = .ok (.goto 955, 3) := by decide +kernel
theorem dL_law_723 : decode cL_law 723 = .ok (.aload_n 1, 1) := by decide +kernel
theorem dL_law_724 : decode cL_law 724 = .ok (.aload_n 0, 1) := by decide +kernel
theorem dL_law_725 : decode cL_law 725 = .ok (.iload 5, 2) := by decide +kernel
theorem dL_law_727 : decode cL_law 727 = .ok (.iconst 1, 1) := by decide +kernel
theorem dL_law_728 : decode cL_law 728 = .ok (.iadd, 1) := by decide +kernel
theorem dL_law_729 : decode cL_law 729 = .ok (.iaload, 1) := by decide +kernel
theorem dL_law_730 : decode cL_law 730 = .ok (.aload_n 3, 1) := by decide +kernel
theorem dL_law_731 : decode cL_law 731 = .ok (.invokestatic 130, 3) := by decide +kernel
theorem dL_law_734 : decode cL_law 734 = .ok (.istore 6, 2) := by decide +kernel
theorem dL_law_736 : decode cL_law 736 = .ok (.aload_n 2, 1) := by decide +kernel
theorem dL_law_737 : decode cL_law 737 = .ok (.aload_n 0, 1) := by decide +kernel
theorem dL_law_738 : decode cL_law 738 = .ok (.iload 5, 2) := by decide +kernel
theorem dL_law_740 : decode cL_law 740 = .ok (.iconst 1, 1) := by decide +kernel
theorem dL_law_741 : decode cL_law 741 = .ok (.iadd, 1) := by decide +kernel
theorem dL_law_742 : decode cL_law 742 = .ok (.iaload, 1) := by decide +kernel
theorem dL_law_743 : decode cL_law 743 = .ok (.invokevirtual 132, 3) := by decide +kernel
theorem dL_law_746 : decode cL_law 746 = .ok (.istore 7, 2) := by decide +kernel
theorem dL_law_748 : decode cL_law 748 = .ok (.aload_n 2, 1) := by decide +kernel
theorem dL_law_749 : decode cL_law 749 = .ok (.invokevirtual 98, 3) := by decide +kernel
theorem dL_law_752 : decode cL_law 752 = .ok (.iload 6, 2) := by decide +kernel
theorem dL_law_754 : decode cL_law 754 = .ok (.if_icmp .eq 5, 3) := by decide +kernel
theorem dL_law_757 : decode cL_law 757 = .ok (.iconst 0, 1) := by decide +kernel
theorem dL_law_758 : decode cL_law 758 = .ok (.ireturn, 1) := by decide +kernel
theorem dL_law_759 : decode cL_law 759 = .ok (.iload 6, 2) := by decide +kernel
theorem dL_law_761 : decode cL_law 761 = .ok (.ifCond .ne 15, 3) := by decide +kernel
theorem dL_law_764 : decode cL_law 764 = .ok (.aload_n 3, 1) := by decide +kernel
theorem dL_law_765 : decode cL_law 765 = .ok (.iconst 0, 1) := by decide +kernel
theorem dL_law_766 : decode cL_law 766 = .ok (.laload, 1) := by decide +kernel
theorem dL_law_767 : decode cL_law 767 = .ok (.iload 7, 2) := by decide +kernel
theorem dL_law_769 : decode cL_law 769 = .ok (.i2l, 1) := by decide +kernel
theorem dL_law_770 : decode cL_law 770 = .ok (.lcmp, 1) := by decide +kernel
theorem dL_law_771 : decode cL_law 771 = .ok (.ifCond .eq 5, 3) := by decide +kernel
theorem dL_law_774 : decode cL_law 774 = .ok (.iconst 0, 1) := by decide +kernel
theorem dL_law_775 : decode cL_law 775 = .ok (.ireturn, 1) := by decide +kernel
theorem dL_law_776 : decode cL_law 776 = .ok (.goto 899, 3) := by decide +kernel
theorem dL_law_779 : decode cL_law 779 = .ok (.aload_n 1, 1) := by decide +kernel
theorem dL_law_780 : decode cL_law 780 = .ok (.aload_n 0, 1) := by decide +kernel
theorem dL_law_781 : decode cL_law 781 = .ok (.iload 5, 2) := by decide +kernel
theorem dL_law_783 : decode cL_law 783 = .ok (.iconst 1, 1) := by decide +kernel
theorem dL_law_784 : decode cL_law 784 = .ok (.iadd, 1) := by decide +kernel
theorem dL_law_785 : decode cL_law 785 = .ok (.iaload, 1) := by decide +kernel
theorem dL_law_786 : decode cL_law 786 = .ok (.aload_n 0, 1) := by decide +kernel
theorem dL_law_787 : decode cL_law 787 = .ok (.iload 5, 2) := by decide +kernel
theorem dL_law_789 : decode cL_law 789 = .ok (.iconst 2, 1) := by decide +kernel
theorem dL_law_790 : decode cL_law 790 = .ok (.iadd, 1) := by decide +kernel
theorem dL_law_791 : decode cL_law 791 = .ok (.iaload, 1) := by decide +kernel
theorem dL_law_792 : decode cL_law 792 = .ok (.aload_n 3, 1) := by decide +kernel
theorem dL_law_793 : decode cL_law 793 = .ok (.invokestatic 133, 3) := by decide +kernel
theorem dL_law_796 : decode cL_law 796 = .ok (.istore 6, 2) := by decide +kernel
theorem dL_law_798 : decode cL_law 798 = .ok (.aload_n 2, 1) := by decide +kernel
theorem dL_law_799 : decode cL_law 799 = .ok (.aload_n 0, 1) := by decide +kernel
theorem dL_law_800 : decode cL_law 800 = .ok (.iload 5, 2) := by decide +kernel
theorem dL_law_802 : decode cL_law 802 = .ok (.iconst 1, 1) := by decide +kernel
theorem dL_law_803 : decode cL_law 803 = .ok (.iadd, 1) := by decide +kernel
theorem dL_law_804 : decode cL_law 804 = .ok (.iaload, 1) := by decide +kernel
theorem dL_law_805 : decode cL_law 805 = .ok (.aload_n 0, 1) := by decide +kernel
theorem dL_law_806 : decode cL_law 806 = .ok (.iload 5, 2) := by decide +kernel
theorem dL_law_808 : decode cL_law 808 = .ok (.iconst 2, 1) := by decide +kernel
theorem dL_law_809 : decode cL_law 809 = .ok (.iadd, 1) := by decide +kernel
theorem dL_law_810 : decode cL_law 810 = .ok (.iaload, 1) := by decide +kernel
theorem dL_law_811 : decode cL_law 811 = .ok (.invokevirtual 135, 3) := by decide +kernel
theorem dL_law_814 : decode cL_law 814 = .ok (.istore 7, 2) := by decide +kernel
theorem dL_law_816 : decode cL_law 816 = .ok (.aload_n 2, 1) := by decide +kernel
theorem dL_law_817 : decode cL_law 817 = .ok (.invokevirtual 98, 3) := by decide +kernel
theorem dL_law_820 : decode cL_law 820 = .ok (.iload 6, 2) := by decide +kernel
theorem dL_law_822 : decode cL_law 822 = .ok (.if_icmp .eq 5, 3) := by decide +kernel
theorem dL_law_825 : decode cL_law 825 = .ok (.iconst 0, 1) := by decide +kernel
theorem dL_law_826 : decode cL_law 826 = .ok (.ireturn, 1) := by decide +kernel
theorem dL_law_827 : decode cL_law 827 = .ok (.iload 6, 2) := by decide +kernel
theorem dL_law_829 : decode cL_law 829 = .ok (.ifCond .ne 15, 3) := by decide +kernel
theorem dL_law_832 : decode cL_law 832 = .ok (.aload_n 3, 1) := by decide +kernel
theorem dL_law_833 : decode cL_law 833 = .ok (.iconst 0, 1) := by decide +kernel
theorem dL_law_834 : decode cL_law 834 = .ok (.laload, 1) := by decide +kernel
theorem dL_law_835 : decode cL_law 835 = .ok (.iload 7, 2) := by decide +kernel
theorem dL_law_837 : decode cL_law 837 = .ok (.i2l, 1) := by decide +kernel
theorem dL_law_838 : decode cL_law 838 = .ok (.lcmp, 1) := by decide +kernel
theorem dL_law_839 : decode cL_law 839 = .ok (.ifCond .eq 5, 3) := by decide +kernel
theorem dL_law_842 : decode cL_law 842 = .ok (.iconst 0, 1) := by decide +kernel
theorem dL_law_843 : decode cL_law 843 = .ok (.ireturn, 1) := by decide +kernel
theorem dL_law_844 : decode cL_law 844 = .ok (.goto 831, 3) := by decide +kernel
theorem dL_law_847 : decode cL_law 847 = .ok (.aload_n 1, 1) := by decide +kernel
theorem dL_law_848 : decode cL_law 848 = .ok (.aload_n 0, 1) := by decide +kernel
theorem dL_law_849 : decode cL_law 849 = .ok (.iload 5, 2) := by decide +kernel
theorem dL_law_851 : decode cL_law 851 = .ok (.iconst 1, 1) := by decide +kernel
theorem dL_law_852 : decode cL_law 852 = .ok (.iadd, 1) := by decide +kernel
theorem dL_law_853 : decode cL_law 853 = .ok (.iaload, 1) := by decide +kernel
theorem dL_law_854 : decode cL_law 854 = .ok (.aload_n 3, 1) := by decide +kernel
theorem dL_law_855 : decode cL_law 855 = .ok (.invokestatic 136, 3) := by decide +kernel
theorem dL_law_858 : decode cL_law 858 = .ok (.istore 6, 2) := by decide +kernel
theorem dL_law_860 : decode cL_law 860 = .ok (.aload_n 2, 1) := by decide +kernel
theorem dL_law_861 : decode cL_law 861 = .ok (.aload_n 0, 1) := by decide +kernel
theorem dL_law_862 : decode cL_law 862 = .ok (.iload 5, 2) := by decide +kernel
theorem dL_law_864 : decode cL_law 864 = .ok (.iconst 1, 1) := by decide +kernel
theorem dL_law_865 : decode cL_law 865 = .ok (.iadd, 1) := by decide +kernel
theorem dL_law_866 : decode cL_law 866 = .ok (.iaload, 1) := by decide +kernel
theorem dL_law_867 : decode cL_law 867 = .ok (.invokevirtual 138, 3) := by decide +kernel
theorem dL_law_870 : decode cL_law 870 = .ok (.istore 7, 2) := by decide +kernel
theorem dL_law_872 : decode cL_law 872 = .ok (.aload_n 2, 1) := by decide +kernel
theorem dL_law_873 : decode cL_law 873 = .ok (.invokevirtual 98, 3) := by decide +kernel
theorem dL_law_876 : decode cL_law 876 = .ok (.iload 6, 2) := by decide +kernel
theorem dL_law_878 : decode cL_law 878 = .ok (.if_icmp .eq 5, 3) := by decide +kernel
theorem dL_law_881 : decode cL_law 881 = .ok (.iconst 0, 1) := by decide +kernel
theorem dL_law_882 : decode cL_law 882 = .ok (.ireturn, 1) := by decide +kernel
theorem dL_law_883 : decode cL_law 883 = .ok (.iload 6, 2) := by decide +kernel
theorem dL_law_885 : decode cL_law 885 = .ok (.ifCond .ne 15, 3) := by decide +kernel
theorem dL_law_888 : decode cL_law 888 = .ok (.aload_n 3, 1) := by decide +kernel
theorem dL_law_889 : decode cL_law 889 = .ok (.iconst 0, 1) := by decide +kernel
theorem dL_law_890 : decode cL_law 890 = .ok (.laload, 1) := by decide +kernel
theorem dL_law_891 : decode cL_law 891 = .ok (.iload 7, 2) := by decide +kernel
theorem dL_law_893 : decode cL_law 893 = .ok (.i2l, 1) := by decide +kernel
theorem dL_law_894 : decode cL_law 894 = .ok (.lcmp, 1) := by decide +kernel
theorem dL_law_895 : decode cL_law 895 = .ok (.ifCond .eq 5, 3) := by decide +kernel
theorem dL_law_898 : decode cL_law 898 = .ok (.iconst 0, 1) := by decide +kernel
theorem dL_law_899 : decode cL_law 899 = .ok (.ireturn, 1) := by decide +kernel
theorem dL_law_900 : decode cL_law 900 = .ok (.goto 775, 3) := by decide +kernel
theorem dL_law_903 : decode cL_law 903 = .ok (.aload_n 1, 1) := by decide +kernel
theorem dL_law_904 : decode cL_law 904 = .ok (.aload_n 0, 1) := by decide +kernel
theorem dL_law_905 : decode cL_law 905 = .ok (.iload 5, 2) := by decide +kernel
theorem dL_law_907 : decode cL_law 907 = .ok (.iconst 1, 1) := by decide +kernel
theorem dL_law_908 : decode cL_law 908 = .ok (.iadd, 1) := by decide +kernel
theorem dL_law_909 : decode cL_law 909 = .ok (.iaload, 1) := by decide +kernel
theorem dL_law_910 : decode cL_law 910 = .ok (.aload_n 0, 1) := by decide +kernel
theorem dL_law_911 : decode cL_law 911 = .ok (.iload 5, 2) := by decide +kernel
theorem dL_law_913 : decode cL_law 913 = .ok (.iconst 2, 1) := by decide +kernel
theorem dL_law_914 : decode cL_law 914 = .ok (.iadd, 1) := by decide +kernel
theorem dL_law_915 : decode cL_law 915 = .ok (.iaload, 1) := by decide +kernel
theorem dL_law_916 : decode cL_law 916 = .ok (.aload_n 3, 1) := by decide +kernel
theorem dL_law_917 : decode cL_law 917 = .ok (.invokestatic 139, 3) := by decide +kernel
theorem dL_law_920 : decode cL_law 920 = .ok (.istore 6, 2) := by decide +kernel
theorem dL_law_922 : decode cL_law 922 = .ok (.aload_n 2, 1) := by decide +kernel
theorem dL_law_923 : decode cL_law 923 = .ok (.aload_n 0, 1) := by decide +kernel
theorem dL_law_924 : decode cL_law 924 = .ok (.iload 5, 2) := by decide +kernel
theorem dL_law_926 : decode cL_law 926 = .ok (.iconst 1, 1) := by decide +kernel
theorem dL_law_927 : decode cL_law 927 = .ok (.iadd, 1) := by decide +kernel
theorem dL_law_928 : decode cL_law 928 = .ok (.iaload, 1) := by decide +kernel
theorem dL_law_929 : decode cL_law 929 = .ok (.aload_n 0, 1) := by decide +kernel
theorem dL_law_930 : decode cL_law 930 = .ok (.iload 5, 2) := by decide +kernel
theorem dL_law_932 : decode cL_law 932 = .ok (.iconst 2, 1) := by decide +kernel
theorem dL_law_933 : decode cL_law 933 = .ok (.iadd, 1) := by decide +kernel
theorem dL_law_934 : decode cL_law 934 = .ok (.iaload, 1) := by decide +kernel
theorem dL_law_935 : decode cL_law 935 = .ok (.invokevirtual 141, 3) := by decide +kernel
theorem dL_law_938 : decode cL_law 938 = .ok (.istore 7, 2) := by decide +kernel
theorem dL_law_940 : decode cL_law 940 = .ok (.aload_n 2, 1) := by decide +kernel
theorem dL_law_941 : decode cL_law 941 = .ok (.invokevirtual 98, 3) := by decide +kernel
theorem dL_law_944 : decode cL_law 944 = .ok (.iload 6, 2) := by decide +kernel
theorem dL_law_946 : decode cL_law 946 = .ok (.if_icmp .eq 5, 3) := by decide +kernel
theorem dL_law_949 : decode cL_law 949 = .ok (.iconst 0, 1) := by decide +kernel
theorem dL_law_950 : decode cL_law 950 = .ok (.ireturn, 1) := by decide +kernel
theorem dL_law_951 : decode cL_law 951 = .ok (.iload 6, 2) := by decide +kernel
theorem dL_law_953 : decode cL_law 953 = .ok (.ifCond .ne 15, 3) := by decide +kernel
theorem dL_law_956 : decode cL_law 956 = .ok (.aload_n 3, 1) := by decide +kernel
theorem dL_law_957 : decode cL_law 957 = .ok (.iconst 0, 1) := by decide +kernel
theorem dL_law_958 : decode cL_law 958 = .ok (.laload, 1) := by decide +kernel
theorem dL_law_959 : decode cL_law 959 = .ok (.iload 7, 2) := by decide +kernel
theorem dL_law_961 : decode cL_law 961 = .ok (.i2l, 1) := by decide +kernel
theorem dL_law_962 : decode cL_law 962 = .ok (.lcmp, 1) := by decide +kernel
theorem dL_law_963 : decode cL_law 963 = .ok (.ifCond .eq 5, 3) := by decide +kernel
theorem dL_law_966 : decode cL_law 966 = .ok (.iconst 0, 1) := by decide +kernel
theorem dL_law_967 : decode cL_law 967 = .ok (.ireturn, 1) := by decide +kernel
theorem dL_law_968 : decode cL_law 968 = .ok (.goto 707, 3) := by decide +kernel
theorem dL_law_971 : decode cL_law 971 = .ok (.aload_n 1, 1) := by decide +kernel
theorem dL_law_972 : decode cL_law 972 = .ok (.aload_n 0, 1) := by decide +kernel
theorem dL_law_973 : decode cL_law 973 = .ok (.iload 5, 2) := by decide +kernel
theorem dL_law_975 : decode cL_law 975 = .ok (.iconst 1, 1) := by decide +kernel
theorem dL_law_976 : decode cL_law 976 = .ok (.iadd, 1) := by decide +kernel
theorem dL_law_977 : decode cL_law 977 = .ok (.iaload, 1) := by decide +kernel
theorem dL_law_978 : decode cL_law 978 = .ok (.aload_n 3, 1) := by decide +kernel
theorem dL_law_979 : decode cL_law 979 = .ok (.invokestatic 142, 3) := by decide +kernel
theorem dL_law_982 : decode cL_law 982 = .ok (.istore 6, 2) := by decide +kernel
theorem dL_law_984 : decode cL_law 984 = .ok (.aload_n 2, 1) := by decide +kernel
theorem dL_law_985 : decode cL_law 985 = .ok (.aload_n 0, 1) := by decide +kernel
theorem dL_law_986 : decode cL_law 986 = .ok (.iload 5, 2) := by decide +kernel
theorem dL_law_988 : decode cL_law 988 = .ok (.iconst 1, 1) := by decide +kernel
theorem dL_law_989 : decode cL_law 989 = .ok (.iadd, 1) := by decide +kernel
theorem dL_law_990 : decode cL_law 990 = .ok (.iaload, 1) := by decide +kernel
theorem dL_law_991 : decode cL_law 991 = .ok (.invokevirtual 144, 3) := by decide +kernel
theorem dL_law_994 : decode cL_law 994 = .ok (.istore 7, 2) := by decide +kernel
theorem dL_law_996 : decode cL_law 996 = .ok (.aload_n 2, 1) := by decide +kernel
theorem dL_law_997 : decode cL_law 997 = .ok (.invokevirtual 98, 3) := by decide +kernel
theorem dL_law_1000 : decode cL_law 1000 = .ok (.iload 6, 2) := by decide +kernel
theorem dL_law_1002 : decode cL_law 1002 = .ok (.if_icmp .eq 5, 3) := by decide +kernel
theorem dL_law_1005 : decode cL_law 1005 = .ok (.iconst 0, 1) := by decide +kernel
theorem dL_law_1006 : decode cL_law 1006 = .ok (.ireturn, 1) := by decide +kernel
theorem dL_law_1007 : decode cL_law 1007 = .ok (.iload 6, 2) := by decide +kernel
theorem dL_law_1009 : decode cL_law 1009 = .ok (.ifCond .ne 15, 3) := by decide +kernel
theorem dL_law_1012 : decode cL_law 1012 = .ok (.aload_n 3, 1) := by decide +kernel
theorem dL_law_1013 : decode cL_law 1013 = .ok (.iconst 0, 1) := by decide +kernel
theorem dL_law_1014 : decode cL_law 1014 = .ok (.laload, 1) := by decide +kernel
theorem dL_law_1015 : decode cL_law 1015 = .ok (.iload 7, 2) := by decide +kernel
theorem dL_law_1017 : decode cL_law 1017 = .ok (.i2l, 1) := by decide +kernel
theorem dL_law_1018 : decode cL_law 1018 = .ok (.lcmp, 1) := by decide +kernel
theorem dL_law_1019 : decode cL_law 1019 = .ok (.ifCond .eq 5, 3) := by decide +kernel
theorem dL_law_1022 : decode cL_law 1022 = .ok (.iconst 0, 1) := by decide +kernel
theorem dL_law_1023 : decode cL_law 1023 = .ok (.ireturn, 1) := by decide +kernel
theorem dL_law_1024 : decode cL_law 1024 = .ok (.goto 651, 3) := by decide +kernel
theorem dL_law_1027 : decode cL_law 1027 = .ok (.aload_n 1, 1) := by decide +kernel
theorem dL_law_1028 : decode cL_law 1028 = .ok (.invokevirtual 145, 3) := by decide +kernel
theorem dL_law_1031 : decode cL_law 1031 = .ok (.aload_n 2, 1) := by decide +kernel
theorem dL_law_1032 : decode cL_law 1032 = .ok (.invokevirtual 148, 3) := by decide +kernel
theorem dL_law_1035 : decode cL_law 1035 = .ok (.if_icmp .eq 640, 3) := by decide +kernel
theorem dL_law_1038 : decode cL_law 1038 = .ok (.iconst 0, 1) := by decide +kernel
theorem dL_law_1039 : decode cL_law 1039 = .ok (.ireturn, 1) := by decide +kernel
theorem dL_law_1040 : decode cL_law 1040 = .ok (.aload_n 1, 1) := by decide +kernel
theorem dL_law_1041 : decode cL_law 1041 = .ok (.invokevirtual 149, 3) := by decide +kernel
theorem dL_law_1044 : decode cL_law 1044 = .ok (.dstore 6, 2) := by decide +kernel
theorem dL_law_1046 : decode cL_law 1046 = .ok (.aload_n 2, 1) := by decide +kernel
theorem dL_law_1047 : decode cL_law 1047 = .ok (.invokevirtual 153, 3) := by decide +kernel
theorem dL_law_1050 : decode cL_law 1050 = .ok (.dstore 8, 2) := by decide +kernel
theorem dL_law_1052 : decode cL_law 1052 = .ok (.dload 6, 2) := by decide +kernel
theorem dL_law_1054 : decode cL_law 1054 = .ok (.dload 8, 2) := by decide +kernel
theorem dL_law_1056 : decode cL_law 1056 = .ok (.dcmp .l, 1) := by decide +kernel
theorem dL_law_1057 : decode cL_law 1057 = .ok (.ifCond .eq 21, 3) := by decide +kernel
theorem dL_law_1060 : decode cL_law 1060 = .ok (.dload 6, 2) := by decide +kernel
theorem dL_law_1062 : decode cL_law 1062 = .ok (.dload 6, 2) := by decide +kernel
theorem dL_law_1064 : decode cL_law 1064 = .ok (.dcmp .l, 1) := by decide +kernel
theorem dL_law_1065 : decode cL_law 1065 = .ok (.ifCond .eq 11, 3) := by decide +kernel
theorem dL_law_1068 : decode cL_law 1068 = .ok (.dload 8, 2) := by decide +kernel
theorem dL_law_1070 : decode cL_law 1070 = .ok (.dload 8, 2) := by decide +kernel
theorem dL_law_1072 : decode cL_law 1072 = .ok (.dcmp .l, 1) := by decide +kernel
theorem dL_law_1073 : decode cL_law 1073 = .ok (.ifCond .ne 5, 3) := by decide +kernel
theorem dL_law_1076 : decode cL_law 1076 = .ok (.iconst 0, 1) := by decide +kernel
theorem dL_law_1077 : decode cL_law 1077 = .ok (.ireturn, 1) := by decide +kernel
theorem dL_law_1078 : decode cL_law 1078 = .ok (.goto 597, 3) := by decide +kernel
theorem dL_law_1081 : decode cL_law 1081 = .ok (.aload_n 1, 1) := by decide +kernel
theorem dL_law_1082 : decode cL_law 1082 = .ok (.aload_n 0, 1) := by decide +kernel
theorem dL_law_1083 : decode cL_law 1083 = .ok (.iload 5, 2) := by decide +kernel
theorem dL_law_1085 : decode cL_law 1085 = .ok (.iconst 1, 1) := by decide +kernel
theorem dL_law_1086 : decode cL_law 1086 = .ok (.iadd, 1) := by decide +kernel
theorem dL_law_1087 : decode cL_law 1087 = .ok (.iaload, 1) := by decide +kernel
theorem dL_law_1088 : decode cL_law 1088 = .ok (.aload 4, 2) := by decide +kernel
theorem dL_law_1090 : decode cL_law 1090 = .ok (.invokestatic 154, 3) := by decide +kernel
theorem dL_law_1093 : decode cL_law 1093 = .ok (.istore 6, 2) := by decide +kernel
theorem dL_law_1095 : decode cL_law 1095 = .ok (.aload_n 2, 1) := by decide +kernel
theorem dL_law_1096 : decode cL_law 1096 = .ok (.aload_n 0, 1) := by decide +kernel
theorem dL_law_1097 : decode cL_law 1097 = .ok (.iload 5, 2) := by decide +kernel
theorem dL_law_1099 : decode cL_law 1099 = .ok (.iconst 1, 1) := by decide +kernel
theorem dL_law_1100 : decode cL_law 1100 = .ok (.iadd, 1) := by decide +kernel
theorem dL_law_1101 : decode cL_law 1101 = .ok (.iaload, 1) := by decide +kernel
theorem dL_law_1102 : decode cL_law 1102 = .ok (.invokevirtual 157, 3) := by decide +kernel
theorem dL_law_1105 : decode cL_law 1105 = .ok (.dstore 7, 2) := by decide +kernel
theorem dL_law_1107 : decode cL_law 1107 = .ok (.aload_n 2, 1) := by decide +kernel
theorem dL_law_1108 : decode cL_law 1108 = .ok (.invokevirtual 98, 3) := by decide +kernel
theorem dL_law_1111 : decode cL_law 1111 = .ok (.iload 6, 2) := by decide +kernel
theorem dL_law_1113 : decode cL_law 1113 = .ok (.if_icmp .eq 5, 3) := by decide +kernel
theorem dL_law_1116 : decode cL_law 1116 = .ok (.iconst 0, 1) := by decide +kernel
theorem dL_law_1117 : decode cL_law 1117 = .ok (.ireturn, 1) := by decide +kernel
theorem dL_law_1118 : decode cL_law 1118 = .ok (.iload 6, 2) := by decide +kernel
theorem dL_law_1120 : decode cL_law 1120 = .ok (.ifCond .ne 35, 3) := by decide +kernel
theorem dL_law_1123 : decode cL_law 1123 = .ok (.aload 4, 2) := by decide +kernel
theorem dL_law_1125 : decode cL_law 1125 = .ok (.iconst 0, 1) := by decide +kernel
theorem dL_law_1126 : decode cL_law 1126 = .ok (.daload, 1) := by decide +kernel
theorem dL_law_1127 : decode cL_law 1127 = .ok (.dload 7, 2) := by decide +kernel
theorem dL_law_1129 : decode cL_law 1129 = .ok (.dcmp .l, 1) := by decide +kernel
theorem dL_law_1130 : decode cL_law 1130 = .ok (.ifCond .eq 25, 3) := by decide +kernel
theorem dL_law_1133 : decode cL_law 1133 = .ok (.aload 4, 2) := by decide +kernel
theorem dL_law_1135 : decode cL_law 1135 = .ok (.iconst 0, 1) := by decide +kernel
theorem dL_law_1136 : decode cL_law 1136 = .ok (.daload, 1) := by decide +kernel
theorem dL_law_1137 : decode cL_law 1137 = .ok (.aload 4, 2) := by decide +kernel
theorem dL_law_1139 : decode cL_law 1139 = .ok (.iconst 0, 1) := by decide +kernel
theorem dL_law_1140 : decode cL_law 1140 = .ok (.daload, 1) := by decide +kernel
theorem dL_law_1141 : decode cL_law 1141 = .ok (.dcmp .l, 1) := by decide +kernel
theorem dL_law_1142 : decode cL_law 1142 = .ok (.ifCond .eq 11, 3) := by decide +kernel
theorem dL_law_1145 : decode cL_law 1145 = .ok (.dload 7, 2) := by decide +kernel
theorem dL_law_1147 : decode cL_law 1147 = .ok (.dload 7, 2) := by decide +kernel
theorem dL_law_1149 : decode cL_law 1149 = .ok (.dcmp .l, 1) := by decide +kernel
theorem dL_law_1150 : decode cL_law 1150 = .ok (.ifCond .ne 5, 3) := by decide +kernel
theorem dL_law_1153 : decode cL_law 1153 = .ok (.iconst 0, 1) := by decide +kernel
theorem dL_law_1154 : decode cL_law 1154 = .ok (.ireturn, 1) := by decide +kernel
theorem dL_law_1155 : decode cL_law 1155 = .ok (.goto 520, 3) := by decide +kernel
theorem dL_law_1158 : decode cL_law 1158 = .ok (.aload_n 1, 1) := by decide +kernel
theorem dL_law_1159 : decode cL_law 1159 = .ok (.invokevirtual 158, 3) := by decide +kernel
theorem dL_law_1162 : decode cL_law 1162 = .ok (.aload_n 2, 1) := by decide +kernel
theorem dL_law_1163 : decode cL_law 1163 = .ok (.invokevirtual 162, 3) := by decide +kernel
theorem dL_law_1166 : decode cL_law 1166 = .ok (.if_icmp .eq 509, 3) := by decide +kernel
theorem dL_law_1169 : decode cL_law 1169 = .ok (.iconst 0, 1) := by decide +kernel
theorem dL_law_1170 : decode cL_law 1170 = .ok (.ireturn, 1) := by decide +kernel
theorem dL_law_1171 : decode cL_law 1171 = .ok (.aload_n 1, 1) := by decide +kernel
theorem dL_law_1172 : decode cL_law 1172 = .ok (.aload_n 0, 1) := by decide +kernel
theorem dL_law_1173 : decode cL_law 1173 = .ok (.iload 5, 2) := by decide +kernel
theorem dL_law_1175 : decode cL_law 1175 = .ok (.iconst 1, 1) := by decide +kernel
theorem dL_law_1176 : decode cL_law 1176 = .ok (.iadd, 1) := by decide +kernel
theorem dL_law_1177 : decode cL_law 1177 = .ok (.iaload, 1) := by decide +kernel
theorem dL_law_1178 : decode cL_law 1178 = .ok (.aload_n 3, 1) := by decide +kernel
theorem dL_law_1179 : decode cL_law 1179 = .ok (.invokestatic 163, 3) := by decide +kernel
theorem dL_law_1182 : decode cL_law 1182 = .ok (.istore 6, 2) := by decide +kernel
theorem dL_law_1184 : decode cL_law 1184 = .ok (.aload_n 2, 1) := by decide +kernel
theorem dL_law_1185 : decode cL_law 1185 = .ok (.aload_n 0, 1) := by decide +kernel
theorem dL_law_1186 : decode cL_law 1186 = .ok (.iload 5, 2) := by decide +kernel
theorem dL_law_1188 : decode cL_law 1188 = .ok (.iconst 1, 1) := by decide +kernel
theorem dL_law_1189 : decode cL_law 1189 = .ok (.iadd, 1) := by decide +kernel
theorem dL_law_1190 : decode cL_law 1190 = .ok (.iaload, 1) := by decide +kernel
theorem dL_law_1191 : decode cL_law 1191 = .ok (.invokevirtual 165, 3) := by decide +kernel
theorem dL_law_1194 : decode cL_law 1194 = .ok (.istore 7, 2) := by decide +kernel
theorem dL_law_1196 : decode cL_law 1196 = .ok (.aload_n 2, 1) := by decide +kernel
theorem dL_law_1197 : decode cL_law 1197 = .ok (.invokevirtual 98, 3) := by decide +kernel
theorem dL_law_1200 : decode cL_law 1200 = .ok (.iload 6, 2) := by decide +kernel
theorem dL_law_1202 : decode cL_law 1202 = .ok (.if_icmp .eq 5, 3) := by decide +kernel
theorem dL_law_1205 : decode cL_law 1205 = .ok (.iconst 0, 1) := by decide +kernel
theorem dL_law_1206 : decode cL_law 1206 = .ok (.ireturn, 1) := by decide +kernel
theorem dL_law_1207 : decode cL_law 1207 = .ok (.iload 6, 2) := by decide +kernel
theorem dL_law_1209 : decode cL_law 1209 = .ok (.ifCond .ne 15, 3) := by decide +kernel
theorem dL_law_1212 : decode cL_law 1212 = .ok (.aload_n 3, 1) := by decide +kernel
theorem dL_law_1213 : decode cL_law 1213 = .ok (.iconst 0, 1) := by decide +kernel
theorem dL_law_1214 : decode cL_law 1214 = .ok (.laload, 1) := by decide +kernel
theorem dL_law_1215 : decode cL_law 1215 = .ok (.iload 7, 2) := by decide +kernel
theorem dL_law_1217 : decode cL_law 1217 = .ok (.i2l, 1) := by decide +kernel
theorem dL_law_1218 : decode cL_law 1218 = .ok (.lcmp, 1) := by decide +kernel
theorem dL_law_1219 : decode cL_law 1219 = .ok (.ifCond .eq 5, 3) := by decide +kernel
theorem dL_law_1222 : decode cL_law 1222 = .ok (.iconst 0, 1) := by decide +kernel
theorem dL_law_1223 : decode cL_law 1223 = .ok (.ireturn, 1) := by decide +kernel
theorem dL_law_1224 : decode cL_law 1224 = .ok (.goto 451, 3) := by decide +kernel
theorem dL_law_1227 : decode cL_law 1227 = .ok (.aload_n 1, 1) := by decide +kernel
theorem dL_law_1228 : decode cL_law 1228 = .ok (.aload_n 0, 1) := by decide +kernel
theorem dL_law_1229 : decode cL_law 1229 = .ok (.iload 5, 2) := by decide +kernel
theorem dL_law_1231 : decode cL_law 1231 = .ok (.iconst 1, 1) := by decide +kernel
theorem dL_law_1232 : decode cL_law 1232 = .ok (.iadd, 1) := by decide +kernel
theorem dL_law_1233 : decode cL_law 1233 = .ok (.iaload, 1) := by decide +kernel
theorem dL_law_1234 : decode cL_law 1234 = .ok (.aload_n 3, 1) := by decide +kernel
theorem dL_law_1235 : decode cL_law 1235 = .ok (.invokestatic 166, 3) := by decide +kernel
theorem dL_law_1238 : decode cL_law 1238 = .ok (.istore 6, 2) := by decide +kernel
theorem dL_law_1240 : decode cL_law 1240 = .ok (.aload_n 2, 1) := by decide +kernel
theorem dL_law_1241 : decode cL_law 1241 = .ok (.aload_n 0, 1) := by decide +kernel
theorem dL_law_1242 : decode cL_law 1242 = .ok (.iload 5, 2) := by decide +kernel
theorem dL_law_1244 : decode cL_law 1244 = .ok (.iconst 1, 1) := by decide +kernel
theorem dL_law_1245 : decode cL_law 1245 = .ok (.iadd, 1) := by decide +kernel
theorem dL_law_1246 : decode cL_law 1246 = .ok (.iaload, 1) := by decide +kernel
theorem dL_law_1247 : decode cL_law 1247 = .ok (.invokevirtual 168, 3) := by decide +kernel
theorem dL_law_1250 : decode cL_law 1250 = .ok (.istore 7, 2) := by decide +kernel
theorem dL_law_1252 : decode cL_law 1252 = .ok (.aload_n 2, 1) := by decide +kernel
theorem dL_law_1253 : decode cL_law 1253 = .ok (.invokevirtual 98, 3) := by decide +kernel
theorem dL_law_1256 : decode cL_law 1256 = .ok (.iload 6, 2) := by decide +kernel
theorem dL_law_1258 : decode cL_law 1258 = .ok (.if_icmp .eq 5, 3) := by decide +kernel
theorem dL_law_1261 : decode cL_law 1261 = .ok (.iconst 0, 1) := by decide +kernel
theorem dL_law_1262 : decode cL_law 1262 = .ok (.ireturn, 1) := by decide +kernel
theorem dL_law_1263 : decode cL_law 1263 = .ok (.iload 6, 2) := by decide +kernel
theorem dL_law_1265 : decode cL_law 1265 = .ok (.ifCond .ne 15, 3) := by decide +kernel
theorem dL_law_1268 : decode cL_law 1268 = .ok (.aload_n 3, 1) := by decide +kernel
theorem dL_law_1269 : decode cL_law 1269 = .ok (.iconst 0, 1) := by decide +kernel
theorem dL_law_1270 : decode cL_law 1270 = .ok (.laload, 1) := by decide +kernel
theorem dL_law_1271 : decode cL_law 1271 = .ok (.iload 7, 2) := by decide +kernel
theorem dL_law_1273 : decode cL_law 1273 = .ok (.i2l, 1) := by decide +kernel
theorem dL_law_1274 : decode cL_law 1274 = .ok (.lcmp, 1) := by decide +kernel
theorem dL_law_1275 : decode cL_law 1275 = .ok (.ifCond .eq 5, 3) := by decide +kernel
theorem dL_law_1278 : decode cL_law 1278 = .ok (.iconst 0, 1) := by decide +kernel
theorem dL_law_1279 : decode cL_law 1279 = .ok (.ireturn, 1) := by decide +kernel
theorem dL_law_1280 : decode cL_law 1280 = .ok (.goto 395, 3) := by decide +kernel
theorem dL_law_1283 : decode cL_law 1283 = .ok (.aload_n 1, 1) := by decide +kernel
theorem dL_law_1284 : decode cL_law 1284 = .ok (.aload_n 0, 1) := by decide +kernel
theorem dL_law_1285 : decode cL_law 1285 = .ok (.iload 5, 2) := by decide +kernel
theorem dL_law_1287 : decode cL_law 1287 = .ok (.iconst 1, 1) := by decide +kernel
theorem dL_law_1288 : decode cL_law 1288 = .ok (.iadd, 1) := by decide +kernel
theorem dL_law_1289 : decode cL_law 1289 = .ok (.iaload, 1) := by decide +kernel
theorem dL_law_1290 : decode cL_law 1290 = .ok (.aload_n 0, 1) := by decide +kernel
theorem dL_law_1291 : decode cL_law 1291 = .ok (.iload 5, 2) := by decide +kernel
theorem dL_law_1293 : decode cL_law 1293 = .ok (.iconst 2, 1) := by decide +kernel
theorem dL_law_1294 : decode cL_law 1294 = .ok (.iadd, 1) := by decide +kernel
theorem dL_law_1295 : decode cL_law 1295 = .ok (.iaload, 1) := by decide +kernel
theorem dL_law_1296 : decode cL_law 1296 = .ok (.aload_n 3, 1) := by decide +kernel
theorem dL_law_1297 : decode cL_law 1297 = .ok (.invokestatic 169, 3) := by decide +kernel
theorem dL_law_1300 : decode cL_law 1300 = .ok (.istore 6, 2) := by decide +kernel
theorem dL_law_1302 : decode cL_law 1302 = .ok (.aload_n 2, 1) := by decide +kernel
theorem dL_law_1303 : decode cL_law 1303 = .ok (.aload_n 0, 1) := by decide +kernel
theorem dL_law_1304 : decode cL_law 1304 = .ok (.iload 5, 2) := by decide +kernel
theorem dL_law_1306 : decode cL_law 1306 = .ok (.iconst 1, 1) := by decide +kernel
theorem dL_law_1307 : decode cL_law 1307 = .ok (.iadd, 1) := by decide +kernel
theorem dL_law_1308 : decode cL_law 1308 = .ok (.iaload, 1) := by decide +kernel
theorem dL_law_1309 : decode cL_law 1309 = .ok (.aload_n 0, 1) := by decide +kernel
theorem dL_law_1310 : decode cL_law 1310 = .ok (.iload 5, 2) := by decide +kernel
theorem dL_law_1312 : decode cL_law 1312 = .ok (.iconst 2, 1) := by decide +kernel
theorem dL_law_1313 : decode cL_law 1313 = .ok (.iadd, 1) := by decide +kernel
theorem dL_law_1314 : decode cL_law 1314 = .ok (.iaload, 1) := by decide +kernel
theorem dL_law_1315 : decode cL_law 1315 = .ok (.invokevirtual 171, 3) := by decide +kernel
theorem dL_law_1318 : decode cL_law 1318 = .ok (.istore 7, 2) := by decide +kernel
theorem dL_law_1320 : decode cL_law 1320 = .ok (.aload_n 2, 1) := by decide +kernel
theorem dL_law_1321 : decode cL_law 1321 = .ok (.invokevirtual 98, 3) := by decide +kernel
theorem dL_law_1324 : decode cL_law 1324 = .ok (.iload 6, 2) := by decide +kernel
theorem dL_law_1326 : decode cL_law 1326 = .ok (.if_icmp .eq 5, 3) := by decide +kernel
theorem dL_law_1329 : decode cL_law 1329 = .ok (.iconst 0, 1) := by decide +kernel
theorem dL_law_1330 : decode cL_law 1330 = .ok (.ireturn, 1) := by decide +kernel
theorem dL_law_1331 : decode cL_law 1331 = .ok (.iload 6, 2) := by decide +kernel
theorem dL_law_1333 : decode cL_law 1333 = .ok (.ifCond .ne 15, 3) := by decide +kernel
theorem dL_law_1336 : decode cL_law 1336 = .ok (.aload_n 3, 1) := by decide +kernel
theorem dL_law_1337 : decode cL_law 1337 = .ok (.iconst 0, 1) := by decide +kernel
theorem dL_law_1338 : decode cL_law 1338 = .ok (.laload, 1) := by decide +kernel
theorem dL_law_1339 : decode cL_law 1339 = .ok (.iload 7, 2) := by decide +kernel
theorem dL_law_1341 : decode cL_law 1341 = .ok (.i2l, 1) := by decide +kernel
theorem dL_law_1342 : decode cL_law 1342 = .ok (.lcmp, 1) := by decide +kernel
theorem dL_law_1343 : decode cL_law 1343 = .ok (.ifCond .eq 5, 3) := by decide +kernel
theorem dL_law_1346 : decode cL_law 1346 = .ok (.iconst 0, 1) := by decide +kernel
theorem dL_law_1347 : decode cL_law 1347 = .ok (.ireturn, 1) := by decide +kernel
theorem dL_law_1348 : decode cL_law 1348 = .ok (.goto 327, 3) := by decide +kernel
theorem dL_law_1351 : decode cL_law 1351 = .ok (.aload_n 1, 1) := by decide +kernel
theorem dL_law_1352 : decode cL_law 1352 = .ok (.aload_n 0, 1) := by decide +kernel
theorem dL_law_1353 : decode cL_law 1353 = .ok (.iload 5, 2) := by decide +kernel
theorem dL_law_1355 : decode cL_law 1355 = .ok (.iconst 1, 1) := by decide +kernel
theorem dL_law_1356 : decode cL_law 1356 = .ok (.iadd, 1) := by decide +kernel
theorem dL_law_1357 : decode cL_law 1357 = .ok (.iaload, 1) := by decide +kernel
theorem dL_law_1358 : decode cL_law 1358 = .ok (.aload_n 0, 1) := by decide +kernel
theorem dL_law_1359 : decode cL_law 1359 = .ok (.iload 5, 2) := by decide +kernel
theorem dL_law_1361 : decode cL_law 1361 = .ok (.iconst 2, 1) := by decide +kernel
theorem dL_law_1362 : decode cL_law 1362 = .ok (.iadd, 1) := by decide +kernel
theorem dL_law_1363 : decode cL_law 1363 = .ok (.iaload, 1) := by decide +kernel
theorem dL_law_1364 : decode cL_law 1364 = .ok (.aload_n 3, 1) := by decide +kernel
theorem dL_law_1365 : decode cL_law 1365 = .ok (.invokestatic 172, 3) := by decide +kernel
theorem dL_law_1368 : decode cL_law 1368 = .ok (.istore 6, 2) := by decide +kernel
theorem dL_law_1370 : decode cL_law 1370 = .ok (.aload_n 2, 1) := by decide +kernel
theorem dL_law_1371 : decode cL_law 1371 = .ok (.aload_n 0, 1) := by decide +kernel
theorem dL_law_1372 : decode cL_law 1372 = .ok (.iload 5, 2) := by decide +kernel
theorem dL_law_1374 : decode cL_law 1374 = .ok (.iconst 1, 1) := by decide +kernel
theorem dL_law_1375 : decode cL_law 1375 = .ok (.iadd, 1) := by decide +kernel
theorem dL_law_1376 : decode cL_law 1376 = .ok (.iaload, 1) := by decide +kernel
theorem dL_law_1377 : decode cL_law 1377 = .ok (.aload_n 0, 1) := by decide +kernel
theorem dL_law_1378 : decode cL_law 1378 = .ok (.iload 5, 2) := by decide +kernel
theorem dL_law_1380 : decode cL_law 1380 = .ok (.iconst 2, 1) := by decide +kernel
theorem dL_law_1381 : decode cL_law 1381 = .ok (.iadd, 1) := by decide +kernel
theorem dL_law_1382 : decode cL_law 1382 = .ok (.iaload, 1) := by decide +kernel
theorem dL_law_1383 : decode cL_law 1383 = .ok (.invokevirtual 174, 3) := by decide +kernel
theorem dL_law_1386 : decode cL_law 1386 = .ok (.istore 7, 2) := by decide +kernel
theorem dL_law_1388 : decode cL_law 1388 = .ok (.aload_n 2, 1) := by decide +kernel
theorem dL_law_1389 : decode cL_law 1389 = .ok (.invokevirtual 98, 3) := by decide +kernel
theorem dL_law_1392 : decode cL_law 1392 = .ok (.iload 6, 2) := by decide +kernel
theorem dL_law_1394 : decode cL_law 1394 = .ok (.if_icmp .eq 5, 3) := by decide +kernel
theorem dL_law_1397 : decode cL_law 1397 = .ok (.iconst 0, 1) := by decide +kernel
theorem dL_law_1398 : decode cL_law 1398 = .ok (.ireturn, 1) := by decide +kernel
theorem dL_law_1399 : decode cL_law 1399 = .ok (.iload 6, 2) := by decide +kernel
theorem dL_law_1401 : decode cL_law 1401 = .ok (.ifCond .ne 15, 3) := by decide +kernel
theorem dL_law_1404 : decode cL_law 1404 = .ok (.aload_n 3, 1) := by decide +kernel
theorem dL_law_1405 : decode cL_law 1405 = .ok (.iconst 0, 1) := by decide +kernel
theorem dL_law_1406 : decode cL_law 1406 = .ok (.laload, 1) := by decide +kernel
theorem dL_law_1407 : decode cL_law 1407 = .ok (.iload 7, 2) := by decide +kernel
theorem dL_law_1409 : decode cL_law 1409 = .ok (.i2l, 1) := by decide +kernel
theorem dL_law_1410 : decode cL_law 1410 = .ok (.lcmp, 1) := by decide +kernel
theorem dL_law_1411 : decode cL_law 1411 = .ok (.ifCond .eq 5, 3) := by decide +kernel
theorem dL_law_1414 : decode cL_law 1414 = .ok (.iconst 0, 1) := by decide +kernel
theorem dL_law_1415 : decode cL_law 1415 = .ok (.ireturn, 1) := by decide +kernel
theorem dL_law_1416 : decode cL_law 1416 = .ok (.goto 259, 3) := by decide +kernel
theorem dL_law_1419 : decode cL_law 1419 = .ok (.aload_n 1, 1) := by decide +kernel
theorem dL_law_1420 : decode cL_law 1420 = .ok (.aload_n 0, 1) := by decide +kernel
theorem dL_law_1421 : decode cL_law 1421 = .ok (.iload 5, 2) := by decide +kernel
theorem dL_law_1423 : decode cL_law 1423 = .ok (.iconst 1, 1) := by decide +kernel
theorem dL_law_1424 : decode cL_law 1424 = .ok (.iadd, 1) := by decide +kernel
theorem dL_law_1425 : decode cL_law 1425 = .ok (.iaload, 1) := by decide +kernel
theorem dL_law_1426 : decode cL_law 1426 = .ok (.aload_n 0, 1) := by decide +kernel
theorem dL_law_1427 : decode cL_law 1427 = .ok (.iload 5, 2) := by decide +kernel
theorem dL_law_1429 : decode cL_law 1429 = .ok (.iconst 2, 1) := by decide +kernel
theorem dL_law_1430 : decode cL_law 1430 = .ok (.iadd, 1) := by decide +kernel
theorem dL_law_1431 : decode cL_law 1431 = .ok (.iaload, 1) := by decide +kernel
theorem dL_law_1432 : decode cL_law 1432 = .ok (.aload_n 3, 1) := by decide +kernel
theorem dL_law_1433 : decode cL_law 1433 = .ok (.invokestatic 175, 3) := by decide +kernel
theorem dL_law_1436 : decode cL_law 1436 = .ok (.istore 6, 2) := by decide +kernel
theorem dL_law_1438 : decode cL_law 1438 = .ok (.aload_n 2, 1) := by decide +kernel
theorem dL_law_1439 : decode cL_law 1439 = .ok (.aload_n 0, 1) := by decide +kernel
theorem dL_law_1440 : decode cL_law 1440 = .ok (.iload 5, 2) := by decide +kernel
theorem dL_law_1442 : decode cL_law 1442 = .ok (.iconst 1, 1) := by decide +kernel
theorem dL_law_1443 : decode cL_law 1443 = .ok (.iadd, 1) := by decide +kernel
theorem dL_law_1444 : decode cL_law 1444 = .ok (.iaload, 1) := by decide +kernel
theorem dL_law_1445 : decode cL_law 1445 = .ok (.aload_n 0, 1) := by decide +kernel
theorem dL_law_1446 : decode cL_law 1446 = .ok (.iload 5, 2) := by decide +kernel
theorem dL_law_1448 : decode cL_law 1448 = .ok (.iconst 2, 1) := by decide +kernel
theorem dL_law_1449 : decode cL_law 1449 = .ok (.iadd, 1) := by decide +kernel
theorem dL_law_1450 : decode cL_law 1450 = .ok (.iaload, 1) := by decide +kernel
theorem dL_law_1451 : decode cL_law 1451 = .ok (.invokevirtual 177, 3) := by decide +kernel
theorem dL_law_1454 : decode cL_law 1454 = .ok (.istore 7, 2) := by decide +kernel
theorem dL_law_1456 : decode cL_law 1456 = .ok (.aload_n 2, 1) := by decide +kernel
theorem dL_law_1457 : decode cL_law 1457 = .ok (.invokevirtual 98, 3) := by decide +kernel
theorem dL_law_1460 : decode cL_law 1460 = .ok (.iload 6, 2) := by decide +kernel
theorem dL_law_1462 : decode cL_law 1462 = .ok (.if_icmp .eq 5, 3) := by decide +kernel
theorem dL_law_1465 : decode cL_law 1465 = .ok (.iconst 0, 1) := by decide +kernel
theorem dL_law_1466 : decode cL_law 1466 = .ok (.ireturn, 1) := by decide +kernel
theorem dL_law_1467 : decode cL_law 1467 = .ok (.iload 6, 2) := by decide +kernel
theorem dL_law_1469 : decode cL_law 1469 = .ok (.ifCond .ne 15, 3) := by decide +kernel
theorem dL_law_1472 : decode cL_law 1472 = .ok (.aload_n 3, 1) := by decide +kernel
theorem dL_law_1473 : decode cL_law 1473 = .ok (.iconst 0, 1) := by decide +kernel
theorem dL_law_1474 : decode cL_law 1474 = .ok (.laload, 1) := by decide +kernel
theorem dL_law_1475 : decode cL_law 1475 = .ok (.iload 7, 2) := by decide +kernel
theorem dL_law_1477 : decode cL_law 1477 = .ok (.i2l, 1) := by decide +kernel
theorem dL_law_1478 : decode cL_law 1478 = .ok (.lcmp, 1) := by decide +kernel
theorem dL_law_1479 : decode cL_law 1479 = .ok (.ifCond .eq 5, 3) := by decide +kernel
theorem dL_law_1482 : decode cL_law 1482 = .ok (.iconst 0, 1) := by decide +kernel
theorem dL_law_1483 : decode cL_law 1483 = .ok (.ireturn, 1) := by decide +kernel
theorem dL_law_1484 : decode cL_law 1484 = .ok (.goto 191, 3) := by decide +kernel
theorem dL_law_1487 : decode cL_law 1487 = .ok (.aload_n 1, 1) := by decide +kernel
theorem dL_law_1488 : decode cL_law 1488 = .ok (.aload_n 0, 1) := by decide +kernel
theorem dL_law_1489 : decode cL_law 1489 = .ok (.iload 5, 2) := by decide +kernel
theorem dL_law_1491 : decode cL_law 1491 = .ok (.iconst 1, 1) := by decide +kernel
theorem dL_law_1492 : decode cL_law 1492 = .ok (.iadd, 1) := by decide +kernel
theorem dL_law_1493 : decode cL_law 1493 = .ok (.iaload, 1) := by decide +kernel
theorem dL_law_1494 : decode cL_law 1494 = .ok (.aload_n 3, 1) := by decide +kernel
theorem dL_law_1495 : decode cL_law 1495 = .ok (.invokestatic 178, 3) := by decide +kernel
theorem dL_law_1498 : decode cL_law 1498 = .ok (.istore 6, 2) := by decide +kernel
theorem dL_law_1500 : decode cL_law 1500 = .ok (.aload_n 2, 1) := by decide +kernel
theorem dL_law_1501 : decode cL_law 1501 = .ok (.aload_n 0, 1) := by decide +kernel
theorem dL_law_1502 : decode cL_law 1502 = .ok (.iload 5, 2) := by decide +kernel
theorem dL_law_1504 : decode cL_law 1504 = .ok (.iconst 1, 1) := by decide +kernel
theorem dL_law_1505 : decode cL_law 1505 = .ok (.iadd, 1) := by decide +kernel
theorem dL_law_1506 : decode cL_law 1506 = .ok (.iaload, 1) := by decide +kernel
theorem dL_law_1507 : decode cL_law 1507 = .ok (.invokevirtual 180, 3) := by decide +kernel
theorem dL_law_1510 : decode cL_law 1510 = .ok (.istore 7, 2) := by decide +kernel
theorem dL_law_1512 : decode cL_law 1512 = .ok (.aload_n 2, 1) := by decide +kernel
theorem dL_law_1513 : decode cL_law 1513 = .ok (.invokevirtual 98, 3) := by decide +kernel
theorem dL_law_1516 : decode cL_law 1516 = .ok (.iload 6, 2) := by decide +kernel
theorem dL_law_1518 : decode cL_law 1518 = .ok (.if_icmp .eq 5, 3) := by decide +kernel
theorem dL_law_1521 : decode cL_law 1521 = .ok (.iconst 0, 1) := by decide +kernel
theorem dL_law_1522 : decode cL_law 1522 = .ok (.ireturn, 1) := by decide +kernel
theorem dL_law_1523 : decode cL_law 1523 = .ok (.iload 6, 2) := by decide +kernel
theorem dL_law_1525 : decode cL_law 1525 = .ok (.ifCond .ne 15, 3) := by decide +kernel
theorem dL_law_1528 : decode cL_law 1528 = .ok (.aload_n 3, 1) := by decide +kernel
theorem dL_law_1529 : decode cL_law 1529 = .ok (.iconst 0, 1) := by decide +kernel
theorem dL_law_1530 : decode cL_law 1530 = .ok (.laload, 1) := by decide +kernel
theorem dL_law_1531 : decode cL_law 1531 = .ok (.iload 7, 2) := by decide +kernel
theorem dL_law_1533 : decode cL_law 1533 = .ok (.i2l, 1) := by decide +kernel
theorem dL_law_1534 : decode cL_law 1534 = .ok (.lcmp, 1) := by decide +kernel
theorem dL_law_1535 : decode cL_law 1535 = .ok (.ifCond .eq 5, 3) := by decide +kernel
theorem dL_law_1538 : decode cL_law 1538 = .ok (.iconst 0, 1) := by decide +kernel
theorem dL_law_1539 : decode cL_law 1539 = .ok (.ireturn, 1) := by decide +kernel
theorem dL_law_1540 : decode cL_law 1540 = .ok (.goto 135, 3) := by decide +kernel
theorem dL_law_1543 : decode cL_law 1543 = .ok (.aload_n 1, 1) := by decide +kernel
theorem dL_law_1544 : decode cL_law 1544 = .ok (.invokevirtual 181, 3) := by decide +kernel
theorem dL_law_1547 : decode cL_law 1547 = .ok (.aload_n 2, 1) := by decide +kernel
theorem dL_law_1548 : decode cL_law 1548 = .ok (.invokevirtual 184, 3) := by decide +kernel
theorem dL_law_1551 : decode cL_law 1551 = .ok (.if_icmp .eq 124, 3) := by decide +kernel
theorem dL_law_1554 : decode cL_law 1554 = .ok (.iconst 0, 1) := by decide +kernel
theorem dL_law_1555 : decode cL_law 1555 = .ok (.ireturn, 1) := by decide +kernel
theorem dL_law_1556 : decode cL_law 1556 = .ok (.aload_n 1, 1) := by decide +kernel
theorem dL_law_1557 : decode cL_law 1557 = .ok (.aload_n 0, 1) := by decide +kernel
theorem dL_law_1558 : decode cL_law 1558 = .ok (.iload 5, 2) := by decide +kernel
theorem dL_law_1560 : decode cL_law 1560 = .ok (.iconst 1, 1) := by decide +kernel
theorem dL_law_1561 : decode cL_law 1561 = .ok (.iadd, 1) := by decide +kernel
theorem dL_law_1562 : decode cL_law 1562 = .ok (.iaload, 1) := by decide +kernel
theorem dL_law_1563 : decode cL_law 1563 = .ok (.aload_n 3, 1) := by decide +kernel
theorem dL_law_1564 : decode cL_law 1564 = .ok (.invokestatic 185, 3) := by decide +kernel
theorem dL_law_1567 : decode cL_law 1567 = .ok (.istore 6, 2) := by decide +kernel
theorem dL_law_1569 : decode cL_law 1569 = .ok (.aload_n 2, 1) := by decide +kernel
theorem dL_law_1570 : decode cL_law 1570 = .ok (.aload_n 0, 1) := by decide +kernel
theorem dL_law_1571 : decode cL_law 1571 = .ok (.iload 5, 2) := by decide +kernel
theorem dL_law_1573 : decode cL_law 1573 = .ok (.iconst 1, 1) := by decide +kernel
theorem dL_law_1574 : decode cL_law 1574 = .ok (.iadd, 1) := by decide +kernel
theorem dL_law_1575 : decode cL_law 1575 = .ok (.iaload, 1) := by decide +kernel
theorem dL_law_1576 : decode cL_law 1576 = .ok (.invokevirtual 187, 3) := by decide +kernel
theorem dL_law_1579 : decode cL_law 1579 = .ok (.istore 7, 2) := by decide +kernel
theorem dL_law_1581 : decode cL_law 1581 = .ok (.aload_n 2, 1) := by decide +kernel
theorem dL_law_1582 : decode cL_law 1582 = .ok (.invokevirtual 98, 3) := by decide +kernel
theorem dL_law_1585 : decode cL_law 1585 = .ok (.iload 6, 2) := by decide +kernel
theorem dL_law_1587 : decode cL_law 1587 = .ok (.if_icmp .eq 5, 3) := by decide +kernel
theorem dL_law_1590 : decode cL_law 1590 = .ok (.iconst 0, 1) := by decide +kernel
theorem dL_law_1591 : decode cL_law 1591 = .ok (.ireturn, 1) := by decide +kernel
theorem dL_law_1592 : decode cL_law 1592 = .ok (.iload 6, 2) := by decide +kernel
theorem dL_law_1594 : decode cL_law 1594 = .ok (.ifCond .ne 22, 3) := by decide +kernel
theorem dL_law_1597 : decode cL_law 1597 = .ok (.aload_n 3, 1) := by decide +kernel
theorem dL_law_1598 : decode cL_law 1598 = .ok (.iconst 0, 1) := by decide +kernel
theorem dL_law_1599 : decode cL_law 1599 = .ok (.laload, 1) := by decide +kernel
theorem dL_law_1600 : decode cL_law 1600 = .ok (.iload 7, 2) := by decide +kernel
theorem dL_law_1602 : decode cL_law 1602 = .ok (.ifCond .eq 7, 3) := by decide +kernel
theorem dL_law_1605 : decode cL_law 1605 = .ok (.lconst 1, 1) := by decide +kernel
theorem dL_law_1606 : decode cL_law 1606 = .ok (.goto 4, 3) := by decide +kernel
theorem dL_law_1609 : decode cL_law 1609 = .ok (.lconst 0, 1) := by decide +kernel
theorem dL_law_1610 : decode cL_law 1610 = .ok (.lcmp, 1) := by decide +kernel
theorem dL_law_1611 : decode cL_law 1611 = .ok (.ifCond .eq 5, 3) := by decide +kernel
theorem dL_law_1614 : decode cL_law 1614 = .ok (.iconst 0, 1) := by decide +kernel
theorem dL_law_1615 : decode cL_law 1615 = .ok (.ireturn, 1) := by decide +kernel
theorem dL_law_1616 : decode cL_law 1616 = .ok (.goto 59, 3) := by decide +kernel
theorem dL_law_1619 : decode cL_law 1619 = .ok (.aload_n 1, 1) := by decide +kernel
theorem dL_law_1620 : decode cL_law 1620 = .ok (.aload_n 0, 1) := by decide +kernel
theorem dL_law_1621 : decode cL_law 1621 = .ok (.iload 5, 2) := by decide +kernel
theorem dL_law_1623 : decode cL_law 1623 = .ok (.iconst 1, 1) := by decide +kernel
theorem dL_law_1624 : decode cL_law 1624 = .ok (.iadd, 1) := by decide +kernel
theorem dL_law_1625 : decode cL_law 1625 = .ok (.iaload, 1) := by decide +kernel
theorem dL_law_1626 : decode cL_law 1626 = .ok (.aload_n 3, 1) := by decide +kernel
theorem dL_law_1627 : decode cL_law 1627 = .ok (.invokestatic 188, 3) := by decide +kernel
theorem dL_law_1630 : decode cL_law 1630 = .ok (.istore 6, 2) := by decide +kernel
theorem dL_law_1632 : decode cL_law 1632 = .ok (.aload_n 2, 1) := by decide +kernel
theorem dL_law_1633 : decode cL_law 1633 = .ok (.aload_n 0, 1) := by decide +kernel
theorem dL_law_1634 : decode cL_law 1634 = .ok (.iload 5, 2) := by decide +kernel
theorem dL_law_1636 : decode cL_law 1636 = .ok (.iconst 1, 1) := by decide +kernel
theorem dL_law_1637 : decode cL_law 1637 = .ok (.iadd, 1) := by decide +kernel
theorem dL_law_1638 : decode cL_law 1638 = .ok (.iaload, 1) := by decide +kernel
theorem dL_law_1639 : decode cL_law 1639 = .ok (.invokevirtual 190, 3) := by decide +kernel
theorem dL_law_1642 : decode cL_law 1642 = .ok (.istore 7, 2) := by decide +kernel
theorem dL_law_1644 : decode cL_law 1644 = .ok (.aload_n 2, 1) := by decide +kernel
theorem dL_law_1645 : decode cL_law 1645 = .ok (.invokevirtual 98, 3) := by decide +kernel
theorem dL_law_1648 : decode cL_law 1648 = .ok (.iload 6, 2) := by decide +kernel
theorem dL_law_1650 : decode cL_law 1650 = .ok (.if_icmp .eq 5, 3) := by decide +kernel
theorem dL_law_1653 : decode cL_law 1653 = .ok (.iconst 0, 1) := by decide +kernel
theorem dL_law_1654 : decode cL_law 1654 = .ok (.ireturn, 1) := by decide +kernel
theorem dL_law_1655 : decode cL_law 1655 = .ok (.iload 6, 2) := by decide +kernel
theorem dL_law_1657 : decode cL_law 1657 = .ok (.ifCond .ne 15, 3) := by decide +kernel
theorem dL_law_1660 : decode cL_law 1660 = .ok (.aload_n 3, 1) := by decide +kernel
theorem dL_law_1661 : decode cL_law 1661 = .ok (.iconst 0, 1) := by decide +kernel
theorem dL_law_1662 : decode cL_law 1662 = .ok (.laload, 1) := by decide +kernel
theorem dL_law_1663 : decode cL_law 1663 = .ok (.iload 7, 2) := by decide +kernel
theorem dL_law_1665 : decode cL_law 1665 = .ok (.i2l, 1) := by decide +kernel
theorem dL_law_1666 : decode cL_law 1666 = .ok (.lcmp, 1) := by decide +kernel
theorem dL_law_1667 : decode cL_law 1667 = .ok (.ifCond .eq 5, 3) := by decide +kernel
theorem dL_law_1670 : decode cL_law 1670 = .ok (.iconst 0, 1) := by decide +kernel
theorem dL_law_1671 : decode cL_law 1671 = .ok (.ireturn, 1) := by decide +kernel
theorem dL_law_1672 : decode cL_law 1672 = .ok (.goto 3, 3) := by decide +kernel
theorem dL_law_1675 : decode cL_law 1675 = .ok (.iinc 5 6, 3) := by decide +kernel
theorem dL_law_1678 : decode cL_law 1678 = .ok (.goto (-1650), 3) := by decide +kernel
theorem dL_law_1681 : decode cL_law 1681 = .ok (.iconst 1, 1) := by decide +kernel
theorem dL_law_1682 : decode cL_law 1682 = .ok (.ireturn, 1) := by decide +kernel
