theorem dX5_rateAt_97 : decode cX5_rateAt 97 = .ok (.bipush 100, 2) := by decide +kernel
theorem dX5_rateAt_99 : decode cX5_rateAt 99 = .ok (.ireturn, 1) := by decide +kernel
theorem dX5_passTick_0 : decode cX5_passTick 0 = .ok (.aload_n 0, 1) := by decide +kernel
theorem dX5_passTick_1 : decode cX5_passTick 1 = .ok (.getfield 17, 3) := by decide +kernel
theorem dX5_passTick_4 : decode cX5_passTick 4 = .ok (.astore_n 1, 1) := by decide +kernel
theorem dX5_passTick_5 : decode cX5_passTick 5 = .ok (.aload_n 1, 1) := by decide +kernel
theorem dX5_passTick_6 : decode cX5_passTick 6 = .ok (.arraylength, 1) := by decide +kernel
theorem dX5_passTick_7 : decode cX5_passTick 7 = .ok (.istore_n 2, 1) := by decide +kernel
theorem dX5_passTick_8 : decode cX5_passTick 8 = .ok (.iconst 0, 1) := by decide +kernel
theorem dX5_passTick_9 : decode cX5_passTick 9 = .ok (.istore_n 3, 1) := by decide +kernel
theorem dX5_passTick_10 : decode cX5_passTick 10 = .ok (.iload_n 3, 1) := by decide +kernel
theorem dX5_passTick_11 : decode cX5_passTick 11 = .ok (.iload_n 2, 1) := by decide +kernel
theorem dX5_passTick_12 : decode cX5_passTick 12 = .ok (.if_icmp .ge 23, 3) := by decide +kernel
theorem dX5_passTick_15 : decode cX5_passTick 15 = .ok (.aload_n 1, 1) := by decide +kernel
theorem dX5_passTick_16 : decode cX5_passTick 16 = .ok (.iload_n 3, 1) := by decide +kernel
theorem dX5_passTick_17 : decode cX5_passTick 17 = .ok (.aaload, 1) := by decide +kernel
theorem dX5_passTick_18 : decode cX5_passTick 18 = .ok (.astore 4, 2) := by decide +kernel
theorem dX5_passTick_20 : decode cX5_passTick 20 = .ok (.aload 4, 2) := by decide +kernel
theorem dX5_passTick_22 : decode cX5_passTick 22 = .ok (.aload_n 0, 1) := by decide +kernel
theorem dX5_passTick_23 : decode cX5_passTick 23 = .ok (.getfield 51, 3) := by decide +kernel
theorem dX5_passTick_26 : decode cX5_passTick 26 = .ok (.invokevirtual 73, 3) := by decide +kernel
theorem dX5_passTick_29 : decode cX5_passTick 29 = .ok (.iinc 3 1, 3) := by decide +kernel
theorem dX5_passTick_32 : decode cX5_passTick 32 = .ok (.goto (-22), 3) := by decide +kernel
theorem dX5_passTick_35 : decode cX5_passTick 35 = .ok (.aload_n 0, 1) := by decide +kernel
theorem dX5_passTick_36 : decode cX5_passTick 36 = .ok (.aload_n 0, 1) := by decide +kernel
theorem dX5_passTick_37 : decode cX5_passTick 37 = .ok (.aload_n 0, 1) := by decide +kernel
theorem dX5_passTick_38 : decode cX5_passTick 38 = .ok (.getfield 51, 3) := by decide +kernel
theorem dX5_passTick_41 : decode cX5_passTick 41 = .ok (.invokevirtual 77, 3) := by decide +kernel
theorem dX5_passTick_44 : decode cX5_passTick 44 = .ok (.invokevirtual 81, 3) := by decide +kernel
theorem dX5_passTick_47 : decode cX5_passTick 47 = .ok (.aload_n 0, 1) := by decide +kernel
theorem dX5_passTick_48 : decode cX5_passTick 48 = .ok (.getfield 17, 3) := by decide +kernel
theorem dX5_passTick_51 : decode cX5_passTick 51 = .ok (.astore_n 1, 1) := by decide +kernel
theorem dX5_passTick_52 : decode cX5_passTick 52 = .ok (.aload_n 1, 1) := by decide +kernel
theorem dX5_passTick_53 : decode cX5_passTick 53 = .ok (.arraylength, 1) := by decide +kernel
theorem dX5_passTick_54 : decode cX5_passTick 54 = .ok (.istore_n 2, 1) := by decide +kernel
theorem dX5_passTick_55 : decode cX5_passTick 55 = .ok (.iconst 0, 1) := by decide +kernel
theorem dX5_passTick_56 : decode cX5_passTick 56 = .ok (.istore_n 3, 1) := by decide +kernel
theorem dX5_passTick_57 : decode cX5_passTick 57 = .ok (.iload_n 3, 1) := by decide +kernel
theorem dX5_passTick_58 : decode cX5_passTick 58 = .ok (.iload_n 2, 1) := by decide +kernel
theorem dX5_passTick_59 : decode cX5_passTick 59 = .ok (.if_icmp .ge 23, 3) := by decide +kernel
theorem dX5_passTick_62 : decode cX5_passTick 62 = .ok (.aload_n 1, 1) := by decide +kernel
theorem dX5_passTick_63 : decode cX5_passTick 63 = .ok (.iload_n 3, 1) := by decide +kernel
theorem dX5_passTick_64 : decode cX5_passTick 64 = .ok (.aaload, 1) := by decide +kernel
theorem dX5_passTick_65 : decode cX5_passTick 65 = .ok (.astore 4, 2) := by decide +kernel
theorem dX5_passTick_67 : decode cX5_passTick 67 = .ok (.aload 4, 2) := by decide +kernel
theorem dX5_passTick_69 : decode cX5_passTick 69 = .ok (.aload_n 0, 1) := by decide +kernel
theorem dX5_passTick_70 : decode cX5_passTick 70 = .ok (.getfield 51, 3) := by decide +kernel
theorem dX5_passTick_73 : decode cX5_passTick 73 = .ok (.invokevirtual 84, 3) := by decide +kernel
theorem dX5_passTick_76 : decode cX5_passTick 76 = .ok (.iinc 3 1, 3) := by decide +kernel
theorem dX5_passTick_79 : decode cX5_passTick 79 = .ok (.goto (-22), 3) := by decide +kernel
theorem dX5_passTick_82 : decode cX5_passTick 82 = .ok (.aload_n 0, 1) := by decide +kernel
theorem dX5_passTick_83 : decode cX5_passTick 83 = .ok (.getfield 17, 3) := by decide +kernel
theorem dX5_passTick_86 : decode cX5_passTick 86 = .ok (.astore_n 1, 1) := by decide +kernel
theorem dX5_passTick_87 : decode cX5_passTick 87 = .ok (.aload_n 1, 1) := by decide +kernel
theorem dX5_passTick_88 : decode cX5_passTick 88 = .ok (.arraylength, 1) := by decide +kernel
theorem dX5_passTick_89 : decode cX5_passTick 89 = .ok (.istore_n 2, 1) := by decide +kernel
theorem dX5_passTick_90 : decode cX5_passTick 90 = .ok (.iconst 0, 1) := by decide +kernel
theorem dX5_passTick_91 : decode cX5_passTick 91 = .ok (.istore_n 3, 1) := by decide +kernel
theorem dX5_passTick_92 : decode cX5_passTick 92 = .ok (.iload_n 3, 1) := by decide +kernel
theorem dX5_passTick_93 : decode cX5_passTick 93 = .ok (.iload_n 2, 1) := by decide +kernel
theorem dX5_passTick_94 : decode cX5_passTick 94 = .ok (.if_icmp .ge 23, 3) := by decide +kernel
theorem dX5_passTick_97 : decode cX5_passTick 97 = .ok (.aload_n 1, 1) := by decide +kernel
theorem dX5_passTick_98 : decode cX5_passTick 98 = .ok (.iload_n 3, 1) := by decide +kernel
theorem dX5_passTick_99 : decode cX5_passTick 99 = .ok (.aaload, 1) := by decide +kernel
theorem dX5_passTick_100 : decode cX5_passTick 100 = .ok (.astore 4, 2) := by decide +kernel
theorem dX5_passTick_102 : decode cX5_passTick 102 = .ok (.aload 4, 2) := by decide +kernel
theorem dX5_passTick_104 : decode cX5_passTick 104 = .ok (.aload_n 0, 1) := by decide +kernel
theorem dX5_passTick_105 : decode cX5_passTick 105 = .ok (.getfield 51, 3) := by decide +kernel
theorem dX5_passTick_108 : decode cX5_passTick 108 = .ok (.invokevirtual 87, 3) := by decide +kernel
theorem dX5_passTick_111 : decode cX5_passTick 111 = .ok (.iinc 3 1, 3) := by decide +kernel
theorem dX5_passTick_114 : decode cX5_passTick 114 = .ok (.goto (-22), 3) := by decide +kernel
theorem dX5_passTick_117 : decode cX5_passTick 117 = .ok (.aload_n 0, 1) := by decide +kernel
theorem dX5_passTick_118 : decode cX5_passTick 118 = .ok (.dup, 1) := by decide +kernel
theorem dX5_passTick_119 : decode cX5_passTick 119 = .ok (.getfield 51, 3) := by decide +kernel
theorem dX5_passTick_122 : decode cX5_passTick 122 = .ok (.iconst 1, 1) := by decide +kernel
theorem dX5_passTick_123 : decode cX5_passTick 123 = .ok (.iadd, 1) := by decide +kernel
theorem dX5_passTick_124 : decode cX5_passTick 124 = .ok (.putfield 51, 3) := by decide +kernel
theorem dX5_passTick_127 : decode cX5_passTick 127 = .ok (.return_, 1) := by decide +kernel
theorem dX5_shareLink_0 : decode cX5_shareLink 0 = .ok (.iload_n 1, 1) := by decide +kernel
theorem dX5_shareLink_1 : decode cX5_shareLink 1 = .ok (.istore_n 2, 1) := by decide +kernel
theorem dX5_shareLink_2 : decode cX5_shareLink 2 = .ok (.aload_n 0, 1) := by decide +kernel
theorem dX5_shareLink_3 : decode cX5_shareLink 3 = .ok (.invokevirtual 90, 3) := by decide +kernel
theorem dX5_shareLink_6 : decode cX5_shareLink 6 = .ok (.istore_n 3, 1) := by decide +kernel
theorem dX5_shareLink_7 : decode cX5_shareLink 7 = .ok (.iconst 0, 1) := by decide +kernel
theorem dX5_shareLink_8 : decode cX5_shareLink 8 = .ok (.istore 4, 2) := by decide +kernel
theorem dX5_shareLink_10 : decode cX5_shareLink 10 = .ok (.iload 4, 2) := by decide +kernel
theorem dX5_shareLink_12 : decode cX5_shareLink 12 = .ok (.iload_n 1, 1) := by decide +kernel
theorem dX5_shareLink_13 : decode cX5_shareLink 13 = .ok (.if_icmp .ge 48, 3) := by decide +kernel
theorem dX5_shareLink_16 : decode cX5_shareLink 16 = .ok (.iload_n 2, 1) := by decide +kernel
theorem dX5_shareLink_17 : decode cX5_shareLink 17 = .ok (.ifCond .le 44, 3) := by decide +kernel
theorem dX5_shareLink_20 : decode cX5_shareLink 20 = .ok (.iload_n 3, 1) := by decide +kernel
theorem dX5_shareLink_21 : decode cX5_shareLink 21 = .ok (.ifCond .le 40, 3) := by decide +kernel
theorem dX5_shareLink_24 : decode cX5_shareLink 24 = .ok (.aload_n 0, 1) := by decide +kernel
theorem dX5_shareLink_25 : decode cX5_shareLink 25 = .ok (.iload_n 2, 1) := by decide +kernel
theorem dX5_shareLink_26 : decode cX5_shareLink 26 = .ok (.iload_n 3, 1) := by decide +kernel
theorem dX5_shareLink_27 : decode cX5_shareLink 27 = .ok (.invokevirtual 94, 3) := by decide +kernel
theorem dX5_shareLink_30 : decode cX5_shareLink 30 = .ok (.istore 5, 2) := by decide +kernel
theorem dX5_shareLink_32 : decode cX5_shareLink 32 = .ok (.iload_n 2, 1) := by decide +kernel
theorem dX5_shareLink_33 : decode cX5_shareLink 33 = .ok (.iload 5, 2) := by decide +kernel
theorem dX5_shareLink_35 : decode cX5_shareLink 35 = .ok (.ifCond .le 8, 3) := by decide +kernel
theorem dX5_shareLink_38 : decode cX5_shareLink 38 = .ok (.iload 5, 2) := by decide +kernel
theorem dX5_shareLink_40 : decode cX5_shareLink 40 = .ok (.goto 8, 3) := by decide +kernel
theorem dX5_shareLink_43 : decode cX5_shareLink 43 = .ok (.aload_n 0, 1) := by decide +kernel
theorem dX5_shareLink_44 : decode cX5_shareLink 44 = .ok (.iload_n 2, 1) := by decide +kernel
theorem dX5_shareLink_45 : decode cX5_shareLink 45 = .ok (.invokevirtual 98, 3) := by decide +kernel
theorem dX5_shareLink_48 : decode cX5_shareLink 48 = .ok (.isub, 1) := by decide +kernel
theorem dX5_shareLink_49 : decode cX5_shareLink 49 = .ok (.istore_n 2, 1) := by decide +kernel
theorem dX5_shareLink_50 : decode cX5_shareLink 50 = .ok (.aload_n 0, 1) := by decide +kernel
theorem dX5_shareLink_51 : decode cX5_shareLink 51 = .ok (.invokevirtual 90, 3) := by decide +kernel
theorem dX5_shareLink_54 : decode cX5_shareLink 54 = .ok (.istore_n 3, 1) := by decide +kernel
theorem dX5_shareLink_55 : decode cX5_shareLink 55 = .ok (.iinc 4 1, 3) := by decide +kernel
theorem dX5_shareLink_58 : decode cX5_shareLink 58 = .ok (.goto (-48), 3) := by decide +kernel
theorem dX5_shareLink_61 : decode cX5_shareLink 61 = .ok (.aload_n 0, 1) := by decide +kernel
theorem dX5_shareLink_62 : decode cX5_shareLink 62 = .ok (.dup, 1) := by decide +kernel
theorem dX5_shareLink_63 : decode cX5_shareLink 63 = .ok (.getfield 54, 3) := by decide +kernel
theorem dX5_shareLink_66 : decode cX5_shareLink 66 = .ok (.iload_n 1, 1) := by decide +kernel
theorem dX5_shareLink_67 : decode cX5_shareLink 67 = .ok (.iload_n 2, 1) := by decide +kernel
theorem dX5_shareLink_68 : decode cX5_shareLink 68 = .ok (.isub, 1) := by decide +kernel
theorem dX5_shareLink_69 : decode cX5_shareLink 69 = .ok (.iadd, 1) := by decide +kernel
theorem dX5_shareLink_70 : decode cX5_shareLink 70 = .ok (.putfield 54, 3) := by decide +kernel
theorem dX5_shareLink_73 : decode cX5_shareLink 73 = .ok (.aload_n 0, 1) := by decide +kernel
theorem dX5_shareLink_74 : decode cX5_shareLink 74 = .ok (.dup, 1) := by decide +kernel
theorem dX5_shareLink_75 : decode cX5_shareLink 75 = .ok (.getfield 57, 3) := by decide +kernel
theorem dX5_shareLink_78 : decode cX5_shareLink 78 = .ok (.iload_n 2, 1) := by decide +kernel
theorem dX5_shareLink_79 : decode cX5_shareLink 79 = .ok (.iadd, 1) := by decide +kernel
theorem dX5_shareLink_80 : decode cX5_shareLink 80 = .ok (.putfield 57, 3) := by decide +kernel
theorem dX5_shareLink_83 : decode cX5_shareLink 83 = .ok (.return_, 1) := by decide +kernel
theorem dX5_weightsInNeed_0 : decode cX5_weightsInNeed 0 = .ok (.iconst 0, 1) := by decide +kernel
theorem dX5_weightsInNeed_1 : decode cX5_weightsInNeed 1 = .ok (.istore_n 1, 1) := by decide +kernel
theorem dX5_weightsInNeed_2 : decode cX5_weightsInNeed 2 = .ok (.aload_n 0, 1) := by decide +kernel
theorem dX5_weightsInNeed_3 : decode cX5_weightsInNeed 3 = .ok (.getfield 17, 3) := by decide +kernel
theorem dX5_weightsInNeed_6 : decode cX5_weightsInNeed 6 = .ok (.astore_n 2, 1) := by decide +kernel
theorem dX5_weightsInNeed_7 : decode cX5_weightsInNeed 7 = .ok (.aload_n 2, 1) := by decide +kernel
theorem dX5_weightsInNeed_8 : decode cX5_weightsInNeed 8 = .ok (.arraylength, 1) := by decide +kernel
theorem dX5_weightsInNeed_9 : decode cX5_weightsInNeed 9 = .ok (.istore_n 3, 1) := by decide +kernel
theorem dX5_weightsInNeed_10 : decode cX5_weightsInNeed 10 = .ok (.iconst 0, 1) := by decide +kernel
theorem dX5_weightsInNeed_11 : decode cX5_weightsInNeed 11 = .ok (.istore 4, 2) := by decide +kernel
theorem dX5_weightsInNeed_13 : decode cX5_weightsInNeed 13 = .ok (.iload 4, 2) := by decide +kernel
theorem dX5_weightsInNeed_15 : decode cX5_weightsInNeed 15 = .ok (.iload_n 3, 1) := by decide +kernel
theorem dX5_weightsInNeed_16 : decode cX5_weightsInNeed 16 = .ok (.if_icmp .ge 39, 3) := by decide +kernel
theorem dX5_weightsInNeed_19 : decode cX5_weightsInNeed 19 = .ok (.aload_n 2, 1) := by decide +kernel
theorem dX5_weightsInNeed_20 : decode cX5_weightsInNeed 20 = .ok (.iload 4, 2) := by decide +kernel
theorem dX5_weightsInNeed_22 : decode cX5_weightsInNeed 22 = .ok (.aaload, 1) := by decide +kernel
theorem dX5_weightsInNeed_23 : decode cX5_weightsInNeed 23 = .ok (.astore 5, 2) := by decide +kernel
theorem dX5_weightsInNeed_25 : decode cX5_weightsInNeed 25 = .ok (.aload 5, 2) := by decide +kernel
theorem dX5_weightsInNeed_27 : decode cX5_weightsInNeed 27 = .ok (.invokevirtual 101, 3) := by decide +kernel
theorem dX5_weightsInNeed_30 : decode cX5_weightsInNeed 30 = .ok (.ifCond .eq 19, 3) := by decide +kernel
theorem dX5_weightsInNeed_33 : decode cX5_weightsInNeed 33 = .ok (.aload 5, 2) := by decide +kernel
theorem dX5_weightsInNeed_35 : decode cX5_weightsInNeed 35 = .ok (.getfield 105, 3) := by decide +kernel
theorem dX5_weightsInNeed_38 : decode cX5_weightsInNeed 38 = .ok (.ifCond .le 11, 3) := by decide +kernel
theorem dX5_weightsInNeed_41 : decode cX5_weightsInNeed 41 = .ok (.iload_n 1, 1) := by decide +kernel
theorem dX5_weightsInNeed_42 : decode cX5_weightsInNeed 42 = .ok (.aload 5, 2) := by decide +kernel
theorem dX5_weightsInNeed_44 : decode cX5_weightsInNeed 44 = .ok (.getfield 108, 3) := by decide +kernel
theorem dX5_weightsInNeed_47 : decode cX5_weightsInNeed 47 = .ok (.iadd, 1) := by decide +kernel
theorem dX5_weightsInNeed_48 : decode cX5_weightsInNeed 48 = .ok (.istore_n 1, 1) := by decide +kernel
theorem dX5_weightsInNeed_49 : decode cX5_weightsInNeed 49 = .ok (.iinc 4 1, 3) := by decide +kernel
theorem dX5_weightsInNeed_52 : decode cX5_weightsInNeed 52 = .ok (.goto (-39), 3) := by decide +kernel
theorem dX5_weightsInNeed_55 : decode cX5_weightsInNeed 55 = .ok (.iload_n 1, 1) := by decide +kernel
theorem dX5_weightsInNeed_56 : decode cX5_weightsInNeed 56 = .ok (.ireturn, 1) := by decide +kernel
theorem dX5_giveByWeight_0 : decode cX5_giveByWeight 0 = .ok (.iconst 0, 1) := by decide +kernel
theorem dX5_giveByWeight_1 : decode cX5_giveByWeight 1 = .ok (.istore_n 3, 1) := by decide +kernel
theorem dX5_giveByWeight_2 : decode cX5_giveByWeight 2 = .ok (.aload_n 0, 1) := by decide +kernel
theorem dX5_giveByWeight_3 : decode cX5_giveByWeight 3 = .ok (.getfield 17, 3) := by decide +kernel
theorem dX5_giveByWeight_6 : decode cX5_giveByWeight 6 = .ok (.astore 4, 2) := by decide +kernel
theorem dX5_giveByWeight_8 : decode cX5_giveByWeight 8 = .ok (.aload 4, 2) := by decide +kernel
theorem dX5_giveByWeight_10 : decode cX5_giveByWeight 10 = .ok (.arraylength, 1) := by decide +kernel
theorem dX5_giveByWeight_11 : decode cX5_giveByWeight 11 = .ok (.istore 5, 2) := by decide +kernel
theorem dX5_giveByWeight_13 : decode cX5_giveByWeight 13 = .ok (.iconst 0, 1) := by decide +kernel
theorem dX5_giveByWeight_14 : decode cX5_giveByWeight 14 = .ok (.istore 6, 2) := by decide +kernel
theorem dX5_giveByWeight_16 : decode cX5_giveByWeight 16 = .ok (.iload 6, 2) := by decide +kernel
theorem dX5_giveByWeight_18 : decode cX5_giveByWeight 18 = .ok (.iload 5, 2) := by decide +kernel
theorem dX5_giveByWeight_20 : decode cX5_giveByWeight 20 = .ok (.if_icmp .ge 67, 3) := by decide +kernel
theorem dX5_giveByWeight_23 : decode cX5_giveByWeight 23 = .ok (.aload 4, 2) := by decide +kernel
theorem dX5_giveByWeight_25 : decode cX5_giveByWeight 25 = .ok (.iload 6, 2) := by decide +kernel
theorem dX5_giveByWeight_27 : decode cX5_giveByWeight 27 = .ok (.aaload, 1) := by decide +kernel
theorem dX5_giveByWeight_28 : decode cX5_giveByWeight 28 = .ok (.astore 7, 2) := by decide +kernel
theorem dX5_giveByWeight_30 : decode cX5_giveByWeight 30 = .ok (.aload 7, 2) := by decide +kernel
theorem dX5_giveByWeight_32 : decode cX5_giveByWeight 32 = .ok (.invokevirtual 101, 3) := by decide +kernel
theorem dX5_giveByWeight_35 : decode cX5_giveByWeight 35 = .ok (.ifCond .eq 46, 3) := by decide +kernel
theorem dX5_giveByWeight_38 : decode cX5_giveByWeight 38 = .ok (.aload 7, 2) := by decide +kernel
theorem dX5_giveByWeight_40 : decode cX5_giveByWeight 40 = .ok (.getfield 105, 3) := by decide +kernel
theorem dX5_giveByWeight_43 : decode cX5_giveByWeight 43 = .ok (.ifCond .le 38, 3) := by decide +kernel
theorem dX5_giveByWeight_46 : decode cX5_giveByWeight 46 = .ok (.iload_n 2, 1) := by decide +kernel
theorem dX5_giveByWeight_47 : decode cX5_giveByWeight 47 = .ok (.ifCond .le 34, 3) := by decide +kernel
theorem dX5_giveByWeight_50 : decode cX5_giveByWeight 50 = .ok (.iload_n 1, 1) := by decide +kernel
theorem dX5_giveByWeight_51 : decode cX5_giveByWeight 51 = .ok (.aload 7, 2) := by decide +kernel
theorem dX5_giveByWeight_53 : decode cX5_giveByWeight 53 = .ok (.getfield 108, 3) := by decide +kernel
theorem dX5_giveByWeight_56 : decode cX5_giveByWeight 56 = .ok (.imul, 1) := by decide +kernel
theorem dX5_giveByWeight_57 : decode cX5_giveByWeight 57 = .ok (.iload_n 2, 1) := by decide +kernel
theorem dX5_giveByWeight_58 : decode cX5_giveByWeight 58 = .ok (.idiv, 1) := by decide +kernel
theorem dX5_giveByWeight_59 : decode cX5_giveByWeight 59 = .ok (.aload 7, 2) := by decide +kernel
theorem dX5_giveByWeight_61 : decode cX5_giveByWeight 61 = .ok (.getfield 105, 3) := by decide +kernel
theorem dX5_giveByWeight_64 : decode cX5_giveByWeight 64 = .ok (.invokestatic 111, 3) := by decide +kernel
theorem dX5_giveByWeight_67 : decode cX5_giveByWeight 67 = .ok (.istore 8, 2) := by decide +kernel
theorem dX5_giveByWeight_69 : decode cX5_giveByWeight 69 = .ok (.aload 7, 2) := by decide +kernel
theorem dX5_giveByWeight_71 : decode cX5_giveByWeight 71 = .ok (.iload 8, 2) := by decide +kernel
theorem dX5_giveByWeight_73 : decode cX5_giveByWeight 73 = .ok (.invokevirtual 116, 3) := by decide +kernel
theorem dX5_giveByWeight_76 : decode cX5_giveByWeight 76 = .ok (.iload_n 3, 1) := by decide +kernel
theorem dX5_giveByWeight_77 : decode cX5_giveByWeight 77 = .ok (.iload 8, 2) := by decide +kernel
theorem dX5_giveByWeight_79 : decode cX5_giveByWeight 79 = .ok (.iadd, 1) := by decide +kernel
theorem dX5_giveByWeight_80 : decode cX5_giveByWeight 80 = .ok (.istore_n 3, 1) := by decide +kernel
theorem dX5_giveByWeight_81 : decode cX5_giveByWeight 81 = .ok (.iinc 6 1, 3) := by decide +kernel
theorem dX5_giveByWeight_84 : decode cX5_giveByWeight 84 = .ok (.goto (-68), 3) := by decide +kernel
theorem dX5_giveByWeight_87 : decode cX5_giveByWeight 87 = .ok (.iload_n 3, 1) := by decide +kernel
theorem dX5_giveByWeight_88 : decode cX5_giveByWeight 88 = .ok (.ireturn, 1) := by decide +kernel
theorem dX5_giveSingly_0 : decode cX5_giveSingly 0 = .ok (.iconst 0, 1) := by decide +kernel
theorem dX5_giveSingly_1 : decode cX5_giveSingly 1 = .ok (.istore_n 2, 1) := by decide +kernel
theorem dX5_giveSingly_2 : decode cX5_giveSingly 2 = .ok (.aload_n 0, 1) := by decide +kernel
theorem dX5_giveSingly_3 : decode cX5_giveSingly 3 = .ok (.getfield 17, 3) := by decide +kernel
theorem dX5_giveSingly_6 : decode cX5_giveSingly 6 = .ok (.astore_n 3, 1) := by decide +kernel
theorem dX5_giveSingly_7 : decode cX5_giveSingly 7 = .ok (.aload_n 3, 1) := by decide +kernel
theorem dX5_giveSingly_8 : decode cX5_giveSingly 8 = .ok (.arraylength, 1) := by decide +kernel
theorem dX5_giveSingly_9 : decode cX5_giveSingly 9 = .ok (.istore 4, 2) := by decide +kernel
theorem dX5_giveSingly_11 : decode cX5_giveSingly 11 = .ok (.iconst 0, 1) := by decide +kernel
theorem dX5_giveSingly_12 : decode cX5_giveSingly 12 = .ok (.istore 5, 2) := by decide +kernel
theorem dX5_giveSingly_14 : decode cX5_giveSingly 14 = .ok (.iload 5, 2) := by decide +kernel
theorem dX5_giveSingly_16 : decode cX5_giveSingly 16 = .ok (.iload 4, 2) := by decide +kernel
theorem dX5_giveSingly_18 : decode cX5_giveSingly 18 = .ok (.if_icmp .ge 45, 3) := by decide +kernel
theorem dX5_giveSingly_21 : decode cX5_giveSingly 21 = .ok (.aload_n 3, 1) := by decide +kernel
theorem dX5_giveSingly_22 : decode cX5_giveSingly 22 = .ok (.iload 5, 2) := by decide +kernel
theorem dX5_giveSingly_24 : decode cX5_giveSingly 24 = .ok (.aaload, 1) := by decide +kernel
theorem dX5_giveSingly_25 : decode cX5_giveSingly 25 = .ok (.astore 6, 2) := by decide +kernel
theorem dX5_giveSingly_27 : decode cX5_giveSingly 27 = .ok (.iload_n 2, 1) := by decide +kernel
theorem dX5_giveSingly_28 : decode cX5_giveSingly 28 = .ok (.iload_n 1, 1) := by decide +kernel
theorem dX5_giveSingly_29 : decode cX5_giveSingly 29 = .ok (.if_icmp .ge 28, 3) := by decide +kernel
theorem dX5_giveSingly_32 : decode cX5_giveSingly 32 = .ok (.aload 6, 2) := by decide +kernel
theorem dX5_giveSingly_34 : decode cX5_giveSingly 34 = .ok (.invokevirtual 101, 3) := by decide +kernel
theorem dX5_giveSingly_37 : decode cX5_giveSingly 37 = .ok (.ifCond .eq 20, 3) := by decide +kernel
theorem dX5_giveSingly_40 : decode cX5_giveSingly 40 = .ok (.aload 6, 2) := by decide +kernel
theorem dX5_giveSingly_42 : decode cX5_giveSingly 42 = .ok (.getfield 105, 3) := by decide +kernel
theorem dX5_giveSingly_45 : decode cX5_giveSingly 45 = .ok (.ifCond .le 12, 3) := by decide +kernel
theorem dX5_giveSingly_48 : decode cX5_giveSingly 48 = .ok (.aload 6, 2) := by decide +kernel
theorem dX5_giveSingly_50 : decode cX5_giveSingly 50 = .ok (.iconst 1, 1) := by decide +kernel
theorem dX5_giveSingly_51 : decode cX5_giveSingly 51 = .ok (.invokevirtual 116, 3) := by decide +kernel
theorem dX5_giveSingly_54 : decode cX5_giveSingly 54 = .ok (.iinc 2 1, 3) := by decide +kernel
theorem dX5_giveSingly_57 : decode cX5_giveSingly 57 = .ok (.iinc 5 1, 3) := by decide +kernel
theorem dX5_giveSingly_60 : decode cX5_giveSingly 60 = .ok (.goto (-46), 3) := by decide +kernel
theorem dX5_giveSingly_63 : decode cX5_giveSingly 63 = .ok (.iload_n 2, 1) := by decide +kernel
theorem dX5_giveSingly_64 : decode cX5_giveSingly 64 = .ok (.ireturn, 1) := by decide +kernel
theorem dX5_passToEnd_0 : decode cX5_passToEnd 0 = .ok (.aload_n 0, 1) := by decide +kernel
theorem dX5_passToEnd_1 : decode cX5_passToEnd 1 = .ok (.getfield 51, 3) := by decide +kernel
theorem dX5_passToEnd_4 : decode cX5_passToEnd 4 = .ok (.istore_n 1, 1) := by decide +kernel
theorem dX5_passToEnd_5 : decode cX5_passToEnd 5 = .ok (.iload_n 1, 1) := by decide +kernel
theorem dX5_passToEnd_6 : decode cX5_passToEnd 6 = .ok (.sipush 2000, 3) := by decide +kernel
theorem dX5_passToEnd_9 : decode cX5_passToEnd 9 = .ok (.if_icmp .ge 20, 3) := by decide +kernel
theorem dX5_passToEnd_12 : decode cX5_passToEnd 12 = .ok (.aload_n 0, 1) := by decide +kernel
theorem dX5_passToEnd_13 : decode cX5_passToEnd 13 = .ok (.invokevirtual 119, 3) := by decide +kernel
theorem dX5_passToEnd_16 : decode cX5_passToEnd 16 = .ok (.ifCond .eq 13, 3) := by decide +kernel
theorem dX5_passToEnd_19 : decode cX5_passToEnd 19 = .ok (.aload_n 0, 1) := by decide +kernel
theorem dX5_passToEnd_20 : decode cX5_passToEnd 20 = .ok (.invokevirtual 122, 3) := by decide +kernel
theorem dX5_passToEnd_23 : decode cX5_passToEnd 23 = .ok (.iinc 1 1, 3) := by decide +kernel
theorem dX5_passToEnd_26 : decode cX5_passToEnd 26 = .ok (.goto (-21), 3) := by decide +kernel
theorem dX5_passToEnd_29 : decode cX5_passToEnd 29 = .ok (.return_, 1) := by decide +kernel
theorem dX5_anyActive_0 : decode cX5_anyActive 0 = .ok (.aload_n 0, 1) := by decide +kernel
theorem dX5_anyActive_1 : decode cX5_anyActive 1 = .ok (.getfield 17, 3) := by decide +kernel
theorem dX5_anyActive_4 : decode cX5_anyActive 4 = .ok (.astore_n 1, 1) := by decide +kernel
theorem dX5_anyActive_5 : decode cX5_anyActive 5 = .ok (.aload_n 1, 1) := by decide +kernel
theorem dX5_anyActive_6 : decode cX5_anyActive 6 = .ok (.arraylength, 1) := by decide +kernel
theorem dX5_anyActive_7 : decode cX5_anyActive 7 = .ok (.istore_n 2, 1) := by decide +kernel
theorem dX5_anyActive_8 : decode cX5_anyActive 8 = .ok (.iconst 0, 1) := by decide +kernel
theorem dX5_anyActive_9 : decode cX5_anyActive 9 = .ok (.istore_n 3, 1) := by decide +kernel
theorem dX5_anyActive_10 : decode cX5_anyActive 10 = .ok (.iload_n 3, 1) := by decide +kernel
theorem dX5_anyActive_11 : decode cX5_anyActive 11 = .ok (.iload_n 2, 1) := by decide +kernel
theorem dX5_anyActive_12 : decode cX5_anyActive 12 = .ok (.if_icmp .ge 24, 3) := by decide +kernel
theorem dX5_anyActive_15 : decode cX5_anyActive 15 = .ok (.aload_n 1, 1) := by decide +kernel
theorem dX5_anyActive_16 : decode cX5_anyActive 16 = .ok (.iload_n 3, 1) := by decide +kernel
theorem dX5_anyActive_17 : decode cX5_anyActive 17 = .ok (.aaload, 1) := by decide +kernel
theorem dX5_anyActive_18 : decode cX5_anyActive 18 = .ok (.astore 4, 2) := by decide +kernel
theorem dX5_anyActive_20 : decode cX5_anyActive 20 = .ok (.aload 4, 2) := by decide +kernel
theorem dX5_anyActive_22 : decode cX5_anyActive 22 = .ok (.invokevirtual 125, 3) := by decide +kernel
theorem dX5_anyActive_25 : decode cX5_anyActive 25 = .ok (.ifCond .eq 5, 3) := by decide +kernel
theorem dX5_anyActive_28 : decode cX5_anyActive 28 = .ok (.iconst 1, 1) := by decide +kernel
theorem dX5_anyActive_29 : decode cX5_anyActive 29 = .ok (.ireturn, 1) := by decide +kernel
theorem dX5_anyActive_30 : decode cX5_anyActive 30 = .ok (.iinc 3 1, 3) := by decide +kernel
theorem dX5_anyActive_33 : decode cX5_anyActive 33 = .ok (.goto (-23), 3) := by decide +kernel
theorem dX5_anyActive_36 : decode cX5_anyActive 36 = .ok (.iconst 0, 1) := by decide +kernel
theorem dX5_anyActive_37 : decode cX5_anyActive 37 = .ok (.ireturn, 1) := by decide +kernel
theorem dX5_countLoading_0 : decode cX5_countLoading 0 = .ok (.iconst 0, 1) := by decide +kernel
theorem dX5_countLoading_1 : decode cX5_countLoading 1 = .ok (.istore_n 1, 1) := by decide +kernel
theorem dX5_countLoading_2 : decode cX5_countLoading 2 = .ok (.aload_n 0, 1) := by decide +kernel
theorem dX5_countLoading_3 : decode cX5_countLoading 3 = .ok (.getfield 17, 3) := by decide +kernel
theorem dX5_countLoading_6 : decode cX5_countLoading 6 = .ok (.astore_n 2, 1) := by decide +kernel
theorem dX5_countLoading_7 : decode cX5_countLoading 7 = .ok (.aload_n 2, 1) := by decide +kernel
theorem dX5_countLoading_8 : decode cX5_countLoading 8 = .ok (.arraylength, 1) := by decide +kernel
theorem dX5_countLoading_9 : decode cX5_countLoading 9 = .ok (.istore_n 3, 1) := by decide +kernel
theorem dX5_countLoading_10 : decode cX5_countLoading 10 = .ok (.iconst 0, 1) := by decide +kernel
theorem dX5_countLoading_11 : decode cX5_countLoading 11 = .ok (.istore 4, 2) := by decide +kernel
theorem dX5_countLoading_13 : decode cX5_countLoading 13 = .ok (.iload 4, 2) := by decide +kernel
theorem dX5_countLoading_15 : decode cX5_countLoading 15 = .ok (.iload_n 3, 1) := by decide +kernel
theorem dX5_countLoading_16 : decode cX5_countLoading 16 = .ok (.if_icmp .ge 26, 3) := by decide +kernel
theorem dX5_countLoading_19 : decode cX5_countLoading 19 = .ok (.aload_n 2, 1) := by decide +kernel
theorem dX5_countLoading_20 : decode cX5_countLoading 20 = .ok (.iload 4, 2) := by decide +kernel
theorem dX5_countLoading_22 : decode cX5_countLoading 22 = .ok (.aaload, 1) := by decide +kernel
theorem dX5_countLoading_23 : decode cX5_countLoading 23 = .ok (.astore 5, 2) := by decide +kernel
theorem dX5_countLoading_25 : decode cX5_countLoading 25 = .ok (.aload 5, 2) := by decide +kernel
theorem dX5_countLoading_27 : decode cX5_countLoading 27 = .ok (.invokevirtual 101, 3) := by decide +kernel
theorem dX5_countLoading_30 : decode cX5_countLoading 30 = .ok (.ifCond .eq 6, 3) := by decide +kernel
theorem dX5_countLoading_33 : decode cX5_countLoading 33 = .ok (.iinc 1 1, 3) := by decide +kernel
theorem dX5_countLoading_36 : decode cX5_countLoading 36 = .ok (.iinc 4 1, 3) := by decide +kernel
theorem dX5_countLoading_39 : decode cX5_countLoading 39 = .ok (.goto (-26), 3) := by decide +kernel
theorem dX5_countLoading_42 : decode cX5_countLoading 42 = .ok (.iload_n 1, 1) := by decide +kernel
theorem dX5_countLoading_43 : decode cX5_countLoading 43 = .ok (.ireturn, 1) := by decide +kernel
theorem dX5_countDone_0 : decode cX5_countDone 0 = .ok (.iconst 0, 1) := by decide +kernel
theorem dX5_countDone_1 : decode cX5_countDone 1 = .ok (.istore_n 1, 1) := by decide +kernel
theorem dX5_countDone_2 : decode cX5_countDone 2 = .ok (.aload_n 0, 1) := by decide +kernel
theorem dX5_countDone_3 : decode cX5_countDone 3 = .ok (.getfield 17, 3) := by decide +kernel
theorem dX5_countDone_6 : decode cX5_countDone 6 = .ok (.astore_n 2, 1) := by decide +kernel
theorem dX5_countDone_7 : decode cX5_countDone 7 = .ok (.aload_n 2, 1) := by decide +kernel
theorem dX5_countDone_8 : decode cX5_countDone 8 = .ok (.arraylength, 1) := by decide +kernel
theorem dX5_countDone_9 : decode cX5_countDone 9 = .ok (.istore_n 3, 1) := by decide +kernel
theorem dX5_countDone_10 : decode cX5_countDone 10 = .ok (.iconst 0, 1) := by decide +kernel
theorem dX5_countDone_11 : decode cX5_countDone 11 = .ok (.istore 4, 2) := by decide +kernel
theorem dX5_countDone_13 : decode cX5_countDone 13 = .ok (.iload 4, 2) := by decide +kernel
theorem dX5_countDone_15 : decode cX5_countDone 15 = .ok (.iload_n 3, 1) := by decide +kernel
theorem dX5_countDone_16 : decode cX5_countDone 16 = .ok (.if_icmp .ge 27, 3) := by decide +kernel
theorem dX5_countDone_19 : decode cX5_countDone 19 = .ok (.aload_n 2, 1) := by decide +kernel
theorem dX5_countDone_20 : decode cX5_countDone 20 = .ok (.iload 4, 2) := by decide +kernel
theorem dX5_countDone_22 : decode cX5_countDone 22 = .ok (.aaload, 1) := by decide +kernel
theorem dX5_countDone_23 : decode cX5_countDone 23 = .ok (.astore 5, 2) := by decide +kernel
theorem dX5_countDone_25 : decode cX5_countDone 25 = .ok (.aload 5, 2) := by decide +kernel
theorem dX5_countDone_27 : decode cX5_countDone 27 = .ok (.getfield 128, 3) := by decide +kernel
theorem dX5_countDone_30 : decode cX5_countDone 30 = .ok (.iconst 3, 1) := by decide +kernel
theorem dX5_countDone_31 : decode cX5_countDone 31 = .ok (.if_icmp .ne 6, 3) := by decide +kernel
theorem dX5_countDone_34 : decode cX5_countDone 34 = .ok (.iinc 1 1, 3) := by decide +kernel
theorem dX5_countDone_37 : decode cX5_countDone 37 = .ok (.iinc 4 1, 3) := by decide +kernel
theorem dX5_countDone_40 : decode cX5_countDone 40 = .ok (.goto (-27), 3) := by decide +kernel
theorem dX5_countDone_43 : decode cX5_countDone 43 = .ok (.iload_n 1, 1) := by decide +kernel
theorem dX5_countDone_44 : decode cX5_countDone 44 = .ok (.ireturn, 1) := by decide +kernel
theorem dX5_ticksStalled_0 : decode cX5_ticksStalled 0 = .ok (.iconst 0, 1) := by decide +kernel
theorem dX5_ticksStalled_1 : decode cX5_ticksStalled 1 = .ok (.istore_n 1, 1) := by decide +kernel
theorem dX5_ticksStalled_2 : decode cX5_ticksStalled 2 = .ok (.aload_n 0, 1) := by decide +kernel
theorem dX5_ticksStalled_3 : decode cX5_ticksStalled 3 = .ok (.getfield 17, 3) := by decide +kernel
theorem dX5_ticksStalled_6 : decode cX5_ticksStalled 6 = .ok (.astore_n 2, 1) := by decide +kernel
theorem dX5_ticksStalled_7 : decode cX5_ticksStalled 7 = .ok (.aload_n 2, 1) := by decide +kernel
theorem dX5_ticksStalled_8 : decode cX5_ticksStalled 8 = .ok (.arraylength, 1) := by decide +kernel
theorem dX5_ticksStalled_9 : decode cX5_ticksStalled 9 = .ok (.istore_n 3, 1) := by decide +kernel
theorem dX5_ticksStalled_10 : decode cX5_ticksStalled 10 = .ok (.iconst 0, 1) := by decide +kernel
theorem dX5_ticksStalled_11 : decode cX5_ticksStalled 11 = .ok (.istore 4, 2) := by decide +kernel
theorem dX5_ticksStalled_13 : decode cX5_ticksStalled 13 = .ok (.iload 4, 2) := by decide +kernel
theorem dX5_ticksStalled_15 : decode cX5_ticksStalled 15 = .ok (.iload_n 3, 1) := by decide +kernel
theorem dX5_ticksStalled_16 : decode cX5_ticksStalled 16 = .ok (.if_icmp .ge 23, 3) := by decide +kernel
theorem dX5_ticksStalled_19 : decode cX5_ticksStalled 19 = .ok (.aload_n 2, 1) := by decide +kernel
theorem dX5_ticksStalled_20 : decode cX5_ticksStalled 20 = .ok (.iload 4, 2) := by decide +kernel
theorem dX5_ticksStalled_22 : decode cX5_ticksStalled 22 = .ok (.aaload, 1) := by decide +kernel
theorem dX5_ticksStalled_23 : decode cX5_ticksStalled 23 = .ok (.astore 5, 2) := by decide +kernel
theorem dX5_ticksStalled_25 : decode cX5_ticksStalled 25 = .ok (.iload_n 1, 1) := by decide +kernel
theorem dX5_ticksStalled_26 : decode cX5_ticksStalled 26 = .ok (.aload 5, 2) := by decide +kernel
theorem dX5_ticksStalled_28 : decode cX5_ticksStalled 28 = .ok (.getfield 131, 3) := by decide +kernel
theorem dX5_ticksStalled_31 : decode cX5_ticksStalled 31 = .ok (.iadd, 1) := by decide +kernel
theorem dX5_ticksStalled_32 : decode cX5_ticksStalled 32 = .ok (.istore_n 1, 1) := by decide +kernel
theorem dX5_ticksStalled_33 : decode cX5_ticksStalled 33 = .ok (.iinc 4 1, 3) := by decide +kernel
theorem dX5_ticksStalled_36 : decode cX5_ticksStalled 36 = .ok (.goto (-23), 3) := by decide +kernel
theorem dX5_ticksStalled_39 : decode cX5_ticksStalled 39 = .ok (.iload_n 1, 1) := by decide +kernel
theorem dX5_ticksStalled_40 : decode cX5_ticksStalled 40 = .ok (.ireturn, 1) := by decide +kernel
theorem dX5_segmentsCome_0 : decode cX5_segmentsCome 0 = .ok (.iconst 0, 1) := by decide +kernel
theorem dX5_segmentsCome_1 : decode cX5_segmentsCome 1 = .ok (.istore_n 1, 1) := by decide +kernel
theorem dX5_segmentsCome_2 : decode cX5_segmentsCome 2 = .ok (.aload_n 0, 1) := by decide +kernel
theorem dX5_segmentsCome_3 : decode cX5_segmentsCome 3 = .ok (.getfield 17, 3) := by decide +kernel
theorem dX5_segmentsCome_6 : decode cX5_segmentsCome 6 = .ok (.astore_n 2, 1) := by decide +kernel
theorem dX5_segmentsCome_7 : decode cX5_segmentsCome 7 = .ok (.aload_n 2, 1) := by decide +kernel
theorem dX5_segmentsCome_8 : decode cX5_segmentsCome 8 = .ok (.arraylength, 1) := by decide +kernel
theorem dX5_segmentsCome_9 : decode cX5_segmentsCome 9 = .ok (.istore_n 3, 1) := by decide +kernel
theorem dX5_segmentsCome_10 : decode cX5_segmentsCome 10 = .ok (.iconst 0, 1) := by decide +kernel
theorem dX5_segmentsCome_11 : decode cX5_segmentsCome 11 = .ok (.istore 4, 2) := by decide +kernel
theorem dX5_segmentsCome_13 : decode cX5_segmentsCome 13 = .ok (.iload 4, 2) := by decide +kernel
theorem dX5_segmentsCome_15 : decode cX5_segmentsCome 15 = .ok (.iload_n 3, 1) := by decide +kernel
theorem dX5_segmentsCome_16 : decode cX5_segmentsCome 16 = .ok (.if_icmp .ge 23, 3) := by decide +kernel
theorem dX5_segmentsCome_19 : decode cX5_segmentsCome 19 = .ok (.aload_n 2, 1) := by decide +kernel
theorem dX5_segmentsCome_20 : decode cX5_segmentsCome 20 = .ok (.iload 4, 2) := by decide +kernel
theorem dX5_segmentsCome_22 : decode cX5_segmentsCome 22 = .ok (.aaload, 1) := by decide +kernel
theorem dX5_segmentsCome_23 : decode cX5_segmentsCome 23 = .ok (.astore 5, 2) := by decide +kernel
theorem dX5_segmentsCome_25 : decode cX5_segmentsCome 25 = .ok (.iload_n 1, 1) := by decide +kernel
theorem dX5_segmentsCome_26 : decode cX5_segmentsCome 26 = .ok (.aload 5, 2) := by decide +kernel
theorem dX5_segmentsCome_28 : decode cX5_segmentsCome 28 = .ok (.getfield 134, 3) := by decide +kernel
theorem dX5_segmentsCome_31 : decode cX5_segmentsCome 31 = .ok (.iadd, 1) := by decide +kernel
theorem dX5_segmentsCome_32 : decode cX5_segmentsCome 32 = .ok (.istore_n 1, 1) := by decide +kernel
theorem dX5_segmentsCome_33 : decode cX5_segmentsCome 33 = .ok (.iinc 4 1, 3) := by decide +kernel
theorem dX5_segmentsCome_36 : decode cX5_segmentsCome 36 = .ok (.goto (-23), 3) := by decide +kernel
theorem dX5_segmentsCome_39 : decode cX5_segmentsCome 39 = .ok (.iload_n 1, 1) := by decide +kernel
theorem dX5_segmentsCome_40 : decode cX5_segmentsCome 40 = .ok (.ireturn, 1) := by decide +kernel
theorem dX5_addsUp_0 : decode cX5_addsUp 0 = .ok (.iconst 0, 1) := by decide +kernel
theorem dX5_addsUp_1 : decode cX5_addsUp 1 = .ok (.istore_n 1, 1) := by decide +kernel
theorem dX5_addsUp_2 : decode cX5_addsUp 2 = .ok (.aload_n 0, 1) := by decide +kernel
theorem dX5_addsUp_3 : decode cX5_addsUp 3 = .ok (.getfield 17, 3) := by decide +kernel
theorem dX5_addsUp_6 : decode cX5_addsUp 6 = .ok (.astore_n 2, 1) := by decide +kernel
theorem dX5_addsUp_7 : decode cX5_addsUp 7 = .ok (.aload_n 2, 1) := by decide +kernel
theorem dX5_addsUp_8 : decode cX5_addsUp 8 = .ok (.arraylength, 1) := by decide +kernel
theorem dX5_addsUp_9 : decode cX5_addsUp 9 = .ok (.istore_n 3, 1) := by decide +kernel
theorem dX5_addsUp_10 : decode cX5_addsUp 10 = .ok (.iconst 0, 1) := by decide +kernel
theorem dX5_addsUp_11 : decode cX5_addsUp 11 = .ok (.istore 4, 2) := by decide +kernel
theorem dX5_addsUp_13 : decode cX5_addsUp 13 = .ok (.iload 4, 2) := by decide +kernel
theorem dX5_addsUp_15 : decode cX5_addsUp 15 = .ok (.iload_n 3, 1) := by decide +kernel
theorem dX5_addsUp_16 : decode cX5_addsUp 16 = .ok (.if_icmp .ge 33, 3) := by decide +kernel
theorem dX5_addsUp_19 : decode cX5_addsUp 19 = .ok (.aload_n 2, 1) := by decide +kernel
theorem dX5_addsUp_20 : decode cX5_addsUp 20 = .ok (.iload 4, 2) := by decide +kernel
theorem dX5_addsUp_22 : decode cX5_addsUp 22 = .ok (.aaload, 1) := by decide +kernel
theorem dX5_addsUp_23 : decode cX5_addsUp 23 = .ok (.astore 5, 2) := by decide +kernel
theorem dX5_addsUp_25 : decode cX5_addsUp 25 = .ok (.aload 5, 2) := by decide +kernel
theorem dX5_addsUp_27 : decode cX5_addsUp 27 = .ok (.invokevirtual 137, 3) := by decide +kernel
theorem dX5_addsUp_30 : decode cX5_addsUp 30 = .ok (.ifCond .ne 5, 3) := by decide +kernel
theorem dX5_addsUp_33 : decode cX5_addsUp 33 = .ok (.iconst 0, 1) := by decide +kernel
theorem dX5_addsUp_34 : decode cX5_addsUp 34 = .ok (.ireturn, 1) := by decide +kernel
theorem dX5_addsUp_35 : decode cX5_addsUp 35 = .ok (.iload_n 1, 1) := by decide +kernel
theorem dX5_addsUp_36 : decode cX5_addsUp 36 = .ok (.aload 5, 2) := by decide +kernel
theorem dX5_addsUp_38 : decode cX5_addsUp 38 = .ok (.getfield 140, 3) := by decide +kernel
theorem dX5_addsUp_41 : decode cX5_addsUp 41 = .ok (.iadd, 1) := by decide +kernel
theorem dX5_addsUp_42 : decode cX5_addsUp 42 = .ok (.istore_n 1, 1) := by decide +kernel
theorem dX5_addsUp_43 : decode cX5_addsUp 43 = .ok (.iinc 4 1, 3) := by decide +kernel
theorem dX5_addsUp_46 : decode cX5_addsUp 46 = .ok (.goto (-33), 3) := by decide +kernel
theorem dX5_addsUp_49 : decode cX5_addsUp 49 = .ok (.iload_n 1, 1) := by decide +kernel
theorem dX5_addsUp_50 : decode cX5_addsUp 50 = .ok (.aload_n 0, 1) := by decide +kernel
theorem dX5_addsUp_51 : decode cX5_addsUp 51 = .ok (.getfield 54, 3) := by decide +kernel
theorem dX5_addsUp_54 : decode cX5_addsUp 54 = .ok (.if_icmp .ne 7, 3) := by decide +kernel
theorem dX5_addsUp_57 : decode cX5_addsUp 57 = .ok (.iconst 1, 1) := by decide +kernel
theorem dX5_addsUp_58 : decode cX5_addsUp 58 = .ok (.goto 4, 3) := by decide +kernel
theorem dX5_addsUp_61 : decode cX5_addsUp 61 = .ok (.iconst 0, 1) := by decide +kernel
theorem dX5_addsUp_62 : decode cX5_addsUp 62 = .ok (.ireturn, 1) := by decide +kernel
theorem dX6_init_0 : decode cX6_init 0 = .ok (.aload_n 0, 1) := by decide +kernel
theorem dX6_init_1 : decode cX6_init 1 = .ok (.invokespecial 3, 3) := by decide +kernel
theorem dX6_init_4 : decode cX6_init 4 = .ok (.aload_n 0, 1) := by decide +kernel
theorem dX6_init_5 : decode cX6_init 5 = .ok (.iconst 4, 1) := by decide +kernel
theorem dX6_init_6 : decode cX6_init 6 = .ok (.newarray .int, 2) := by decide +kernel
theorem dX6_init_8 : decode cX6_init 8 = .ok (.putfield 9, 3) := by decide +kernel
theorem dX6_init_11 : decode cX6_init 11 = .ok (.aload_n 0, 1) := by decide +kernel
theorem dX6_init_12 : decode cX6_init 12 = .ok (.bipush 120, 2) := by decide +kernel
theorem dX6_init_14 : decode cX6_init 14 = .ok (.newarray .int, 2) := by decide +kernel
theorem dX6_init_16 : decode cX6_init 16 = .ok (.putfield 15, 3) := by decide +kernel
theorem dX6_init_19 : decode cX6_init 19 = .ok (.return_, 1) := by decide +kernel
theorem dX6_clear_0 : decode cX6_clear 0 = .ok (.aload_n 0, 1) := by decide +kernel
theorem dX6_clear_1 : decode cX6_clear 1 = .ok (.getfield 9, 3) := by decide +kernel
theorem dX6_clear_4 : decode cX6_clear 4 = .ok (.invokestatic 18, 3) := by decide +kernel
theorem dX6_clear_7 : decode cX6_clear 7 = .ok (.aload_n 0, 1) := by decide +kernel
theorem dX6_clear_8 : decode cX6_clear 8 = .ok (.getfield 15, 3) := by decide +kernel
theorem dX6_clear_11 : decode cX6_clear 11 = .ok (.invokestatic 18, 3) := by decide +kernel
theorem dX6_clear_14 : decode cX6_clear 14 = .ok (.aload_n 0, 1) := by decide +kernel
theorem dX6_clear_15 : decode cX6_clear 15 = .ok (.lconst 0, 1) := by decide +kernel
theorem dX6_clear_16 : decode cX6_clear 16 = .ok (.putfield 22, 3) := by decide +kernel
theorem dX6_clear_19 : decode cX6_clear 19 = .ok (.aload_n 0, 1) := by decide +kernel
theorem dX6_clear_20 : decode cX6_clear 20 = .ok (.iconst 0, 1) := by decide +kernel
theorem dX6_clear_21 : decode cX6_clear 21 = .ok (.putfield 26, 3) := by decide +kernel
theorem dX6_clear_24 : decode cX6_clear 24 = .ok (.aload_n 0, 1) := by decide +kernel
theorem dX6_clear_25 : decode cX6_clear 25 = .ok (.iconst 0, 1) := by decide +kernel
theorem dX6_clear_26 : decode cX6_clear 26 = .ok (.putfield 30, 3) := by decide +kernel
theorem dX6_clear_29 : decode cX6_clear 29 = .ok (.aload_n 0, 1) := by decide +kernel
theorem dX6_clear_30 : decode cX6_clear 30 = .ok (.iconst 1, 1) := by decide +kernel
theorem dX6_clear_31 : decode cX6_clear 31 = .ok (.putfield 33, 3) := by decide +kernel
theorem dX6_clear_34 : decode cX6_clear 34 = .ok (.aload_n 0, 1) := by decide +kernel
theorem dX6_clear_35 : decode cX6_clear 35 = .ok (.iconst 0, 1) := by decide +kernel
theorem dX6_clear_36 : decode cX6_clear 36 = .ok (.putfield 36, 3) := by decide +kernel
theorem dX6_clear_39 : decode cX6_clear 39 = .ok (.aload_n 0, 1) := by decide +kernel
theorem dX6_clear_40 : decode cX6_clear 40 = .ok (.iconst 0, 1) := by decide +kernel
theorem dX6_clear_41 : decode cX6_clear 41 = .ok (.putfield 39, 3) := by decide +kernel
theorem dX6_clear_44 : decode cX6_clear 44 = .ok (.aload_n 0, 1) := by decide +kernel
theorem dX6_clear_45 : decode cX6_clear 45 = .ok (.iconst 0, 1) := by decide +kernel
theorem dX6_clear_46 : decode cX6_clear 46 = .ok (.putfield 42, 3) := by decide +kernel
theorem dX6_clear_49 : decode cX6_clear 49 = .ok (.return_, 1) := by decide +kernel
theorem dX6_copyFrom_0 : decode cX6_copyFrom 0 = .ok (.aload_n 1, 1) := by decide +kernel
theorem dX6_copyFrom_1 : decode cX6_copyFrom 1 = .ok (.getfield 9, 3) := by decide +kernel
theorem dX6_copyFrom_4 : decode cX6_copyFrom 4 = .ok (.aload_n 0, 1) := by decide +kernel
theorem dX6_copyFrom_5 : decode cX6_copyFrom 5 = .ok (.getfield 9, 3) := by decide +kernel
theorem dX6_copyFrom_8 : decode cX6_copyFrom 8 = .ok (.invokestatic 46, 3) := by decide +kernel
theorem dX6_copyFrom_11 : decode cX6_copyFrom 11 = .ok (.aload_n 1, 1) := by decide +kernel
theorem dX6_copyFrom_12 : decode cX6_copyFrom 12 = .ok (.getfield 15, 3) := by decide +kernel
theorem dX6_copyFrom_15 : decode cX6_copyFrom 15 = .ok (.aload_n 0, 1) := by decide +kernel
theorem dX6_copyFrom_16 : decode cX6_copyFrom 16 = .ok (.getfield 15, 3) := by decide +kernel
theorem dX6_copyFrom_19 : decode cX6_copyFrom 19 = .ok (.invokestatic 46, 3) := by decide +kernel
theorem dX6_copyFrom_22 : decode cX6_copyFrom 22 = .ok (.aload_n 0, 1) := by decide +kernel
theorem dX6_copyFrom_23 : decode cX6_copyFrom 23 = .ok (.aload_n 1, 1) := by decide +kernel
theorem dX6_copyFrom_24 : decode cX6_copyFrom 24 = .ok (.getfield 22, 3) := by decide +kernel
theorem dX6_copyFrom_27 : decode cX6_copyFrom 27 = .ok (.putfield 22, 3) := by decide +kernel
theorem dX6_copyFrom_30 : decode cX6_copyFrom 30 = .ok (.aload_n 0, 1) := by decide +kernel
theorem dX6_copyFrom_31 : decode cX6_copyFrom 31 = .ok (.aload_n 1, 1) := by decide +kernel
theorem dX6_copyFrom_32 : decode cX6_copyFrom 32 = .ok (.getfield 26, 3) := by decide +kernel
theorem dX6_copyFrom_35 : decode cX6_copyFrom 35 = .ok (.putfield 26, 3) := by decide +kernel
theorem dX6_copyFrom_38 : decode cX6_copyFrom 38 = .ok (.aload_n 0, 1) := by decide +kernel
theorem dX6_copyFrom_39 : decode cX6_copyFrom 39 = .ok (.aload_n 1, 1) := by decide +kernel
theorem dX6_copyFrom_40 : decode cX6_copyFrom 40 = .ok (.getfield 30, 3) := by decide +kernel
theorem dX6_copyFrom_43 : decode cX6_copyFrom 43 = .ok (.putfield 30, 3) := by decide +kernel
theorem dX6_copyFrom_46 : decode cX6_copyFrom 46 = .ok (.aload_n 0, 1) := by decide +kernel
theorem dX6_copyFrom_47 : decode cX6_copyFrom 47 = .ok (.aload_n 1, 1) := by decide +kernel
theorem dX6_copyFrom_48 : decode cX6_copyFrom 48 = .ok (.getfield 33, 3) := by decide +kernel
theorem dX6_copyFrom_51 : decode cX6_copyFrom 51 = .ok (.putfield 33, 3) := by decide +kernel
theorem dX6_copyFrom_54 : decode cX6_copyFrom 54 = .ok (.aload_n 0, 1) := by decide +kernel
theorem dX6_copyFrom_55 : decode cX6_copyFrom 55 = .ok (.aload_n 1, 1) := by decide +kernel
theorem dX6_copyFrom_56 : decode cX6_copyFrom 56 = .ok (.getfield 36, 3) := by decide +kernel
theorem dX6_copyFrom_59 : decode cX6_copyFrom 59 = .ok (.putfield 36, 3) := by decide +kernel
theorem dX6_copyFrom_62 : decode cX6_copyFrom 62 = .ok (.aload_n 0, 1) := by decide +kernel
theorem dX6_copyFrom_63 : decode cX6_copyFrom 63 = .ok (.aload_n 1, 1) := by decide +kernel
theorem dX6_copyFrom_64 : decode cX6_copyFrom 64 = .ok (.getfield 39, 3) := by decide +kernel
theorem dX6_copyFrom_67 : decode cX6_copyFrom 67 = .ok (.putfield 39, 3) := by decide +kernel
theorem dX6_copyFrom_70 : decode cX6_copyFrom 70 = .ok (.aload_n 0, 1) := by decide +kernel
theorem dX6_copyFrom_71 : decode cX6_copyFrom 71 = .ok (.aload_n 1, 1) := by decide +kernel
theorem dX6_copyFrom_72 : decode cX6_copyFrom 72 = .ok (.getfield 42, 3) := by decide +kernel
theorem dX6_copyFrom_75 : decode cX6_copyFrom 75 = .ok (.putfield 42, 3) := by decide +kernel
theorem dX6_copyFrom_78 : decode cX6_copyFrom 78 = .ok (.return_, 1) := by decide +kernel
theorem dX6_setSegment_0 : decode cX6_setSegment 0 = .ok (.iconst 0, 1) := by decide +kernel
theorem dX6_setSegment_1 : decode cX6_setSegment 1 = .ok (.istore_n 3, 1) := by decide +kernel
theorem dX6_setSegment_2 : decode cX6_setSegment 2 = .ok (.iload_n 3, 1) := by decide +kernel
theorem dX6_setSegment_3 : decode cX6_setSegment 3 = .ok (.aload_n 0, 1) := by decide +kernel
theorem dX6_setSegment_4 : decode cX6_setSegment 4 = .ok (.getfield 9, 3) := by decide +kernel
theorem dX6_setSegment_7 : decode cX6_setSegment 7 = .ok (.arraylength, 1) := by decide +kernel
theorem dX6_setSegment_8 : decode cX6_setSegment 8 = .ok (.if_icmp .ge 63, 3) := by decide +kernel
theorem dX6_setSegment_11 : decode cX6_setSegment 11 = .ok (.iload_n 1, 1) := by decide +kernel
theorem dX6_setSegment_12 : decode cX6_setSegment 12 = .ok (.iconst 4, 1) := by decide +kernel
theorem dX6_setSegment_13 : decode cX6_setSegment 13 = .ok (.imul, 1) := by decide +kernel
theorem dX6_setSegment_14 : decode cX6_setSegment 14 = .ok (.iload_n 3, 1) := by decide +kernel
theorem dX6_setSegment_15 : decode cX6_setSegment 15 = .ok (.iadd, 1) := by decide +kernel
theorem dX6_setSegment_16 : decode cX6_setSegment 16 = .ok (.istore 4, 2) := by decide +kernel
theorem dX6_setSegment_18 : decode cX6_setSegment 18 = .ok (.iload 4, 2) := by decide +kernel
theorem dX6_setSegment_20 : decode cX6_setSegment 20 = .ok (.ifCond .lt 45, 3) := by decide +kernel
theorem dX6_setSegment_23 : decode cX6_setSegment 23 = .ok (.iload 4, 2) := by decide +kernel
theorem dX6_setSegment_25 : decode cX6_setSegment 25 = .ok (.aload_n 0, 1) := by decide +kernel
theorem dX6_setSegment_26 : decode cX6_setSegment 26 = .ok (.getfield 15, 3) := by decide +kernel
theorem dX6_setSegment_29 : decode cX6_setSegment 29 = .ok (.arraylength, 1) := by decide +kernel
theorem dX6_setSegment_30 : decode cX6_setSegment 30 = .ok (.if_icmp .ge 35, 3) := by decide +kernel
theorem dX6_setSegment_33 : decode cX6_setSegment 33 = .ok (.aload_n 0, 1) := by decide +kernel
theorem dX6_setSegment_34 : decode cX6_setSegment 34 = .ok (.getfield 9, 3) := by decide +kernel
theorem dX6_setSegment_37 : decode cX6_setSegment 37 = .ok (.iload_n 3, 1) := by decide +kernel
theorem dX6_setSegment_38 : decode cX6_setSegment 38 = .ok (.iaload, 1) := by decide +kernel
theorem dX6_setSegment_39 : decode cX6_setSegment 39 = .ok (.iload_n 2, 1) := by decide +kernel
theorem dX6_setSegment_40 : decode cX6_setSegment 40 = .ok (.imul, 1) := by decide +kernel
theorem dX6_setSegment_41 : decode cX6_setSegment 41 = .ok (.bipush 100, 2) := by decide +kernel
theorem dX6_setSegment_43 : decode cX6_setSegment 43 = .ok (.idiv, 1) := by decide +kernel
theorem dX6_setSegment_44 : decode cX6_setSegment 44 = .ok (.istore 5, 2) := by decide +kernel
theorem dX6_setSegment_46 : decode cX6_setSegment 46 = .ok (.aload_n 0, 1) := by decide +kernel
theorem dX6_setSegment_47 : decode cX6_setSegment 47 = .ok (.getfield 15, 3) := by decide +kernel
theorem dX6_setSegment_50 : decode cX6_setSegment 50 = .ok (.iload 4, 2) := by decide +kernel
theorem dX6_setSegment_52 : decode cX6_setSegment 52 = .ok (.iload 5, 2) := by decide +kernel
theorem dX6_setSegment_54 : decode cX6_setSegment 54 = .ok (.iconst 1, 1) := by decide +kernel
theorem dX6_setSegment_55 : decode cX6_setSegment 55 = .ok (.if_icmp .ge 7, 3) := by decide +kernel
theorem dX6_setSegment_58 : decode cX6_setSegment 58 = .ok (.iconst 1, 1) := by decide +kernel
theorem dX6_setSegment_59 : decode cX6_setSegment 59 = .ok (.goto 5, 3) := by decide +kernel
theorem dX6_setSegment_62 : decode cX6_setSegment 62 = .ok (.iload 5, 2) := by decide +kernel
theorem dX6_setSegment_64 : decode cX6_setSegment 64 = .ok (.iastore, 1) := by decide +kernel
theorem dX6_setSegment_65 : decode cX6_setSegment 65 = .ok (.iinc 3 1, 3) := by decide +kernel
theorem dX6_setSegment_68 : decode cX6_setSegment 68 = .ok (.goto (-66), 3) := by decide +kernel
theorem dX6_setSegment_71 : decode cX6_setSegment 71 = .ok (.return_, 1) := by decide +kernel
theorem dX6_sizeOfSegment_0 : decode cX6_sizeOfSegment 0 = .ok (.iload_n 1, 1) := by decide +kernel
theorem dX6_sizeOfSegment_1 : decode cX6_sizeOfSegment 1 = .ok (.iconst 4, 1) := by decide +kernel
theorem dX6_sizeOfSegment_2 : decode cX6_sizeOfSegment 2 = .ok (.imul, 1) := by decide +kernel
theorem dX6_sizeOfSegment_3 : decode cX6_sizeOfSegment 3 = .ok (.iload_n 2, 1) := by decide +kernel
theorem dX6_sizeOfSegment_4 : decode cX6_sizeOfSegment 4 = .ok (.iadd, 1) := by decide +kernel
theorem dX6_sizeOfSegment_5 : decode cX6_sizeOfSegment 5 = .ok (.istore_n 3, 1) := by decide +kernel
theorem dX6_sizeOfSegment_6 : decode cX6_sizeOfSegment 6 = .ok (.iload_n 3, 1) := by decide +kernel
theorem dX6_sizeOfSegment_7 : decode cX6_sizeOfSegment 7 = .ok (.ifCond .lt 21, 3) := by decide +kernel
theorem dX6_sizeOfSegment_10 : decode cX6_sizeOfSegment 10 = .ok (.iload_n 3, 1) := by decide +kernel
theorem dX6_sizeOfSegment_11 : decode cX6_sizeOfSegment 11 = .ok (.aload_n 0, 1) := by decide +kernel
theorem dX6_sizeOfSegment_12 : decode cX6_sizeOfSegment 12 = .ok (.getfield 15, 3) := by decide +kernel
theorem dX6_sizeOfSegment_15 : decode cX6_sizeOfSegment 15 = .ok (.arraylength, 1) := by decide +kernel
theorem dX6_sizeOfSegment_16 : decode cX6_sizeOfSegment 16 = .ok (.if_icmp .ge 12, 3) := by decide +kernel
theorem dX6_sizeOfSegment_19 : decode cX6_sizeOfSegment 19 = .ok (.aload_n 0, 1) := by decide +kernel
theorem dX6_sizeOfSegment_20 : decode cX6_sizeOfSegment 20 = .ok (.getfield 15, 3) := by decide +kernel
theorem dX6_sizeOfSegment_23 : decode cX6_sizeOfSegment 23 = .ok (.iload_n 3, 1) := by decide +kernel
theorem dX6_sizeOfSegment_24 : decode cX6_sizeOfSegment 24 = .ok (.iaload, 1) := by decide +kernel
theorem dX6_sizeOfSegment_25 : decode cX6_sizeOfSegment 25 = .ok (.goto 4, 3) := by decide +kernel
theorem dX6_sizeOfSegment_28 : decode cX6_sizeOfSegment 28 = .ok (.iconst 0, 1) := by decide +kernel
theorem dX6_sizeOfSegment_29 : decode cX6_sizeOfSegment 29 = .ok (.ireturn, 1) := by decide +kernel
theorem dX6_greatestWithin_0 : decode cX6_greatestWithin 0 = .ok (.aload_n 0, 1) := by decide +kernel
theorem dX6_greatestWithin_1 : decode cX6_greatestWithin 1 = .ok (.getfield 36, 3) := by decide +kernel
theorem dX6_greatestWithin_4 : decode cX6_greatestWithin 4 = .ok (.iconst 1, 1) := by decide +kernel
theorem dX6_greatestWithin_5 : decode cX6_greatestWithin 5 = .ok (.isub, 1) := by decide +kernel
theorem dX6_greatestWithin_6 : decode cX6_greatestWithin 6 = .ok (.istore_n 3, 1) := by decide +kernel
theorem dX6_greatestWithin_7 : decode cX6_greatestWithin 7 = .ok (.iload_n 3, 1) := by decide +kernel
theorem dX6_greatestWithin_8 : decode cX6_greatestWithin 8 = .ok (.ifCond .le 47, 3) := by decide +kernel
theorem dX6_greatestWithin_11 : decode cX6_greatestWithin 11 = .ok (.iload_n 1, 1) := by decide +kernel
theorem dX6_greatestWithin_12 : decode cX6_greatestWithin 12 = .ok (.iconst 4, 1) := by decide +kernel
theorem dX6_greatestWithin_13 : decode cX6_greatestWithin 13 = .ok (.imul, 1) := by decide +kernel
theorem dX6_greatestWithin_14 : decode cX6_greatestWithin 14 = .ok (.iload_n 3, 1) := by decide +kernel
theorem dX6_greatestWithin_15 : decode cX6_greatestWithin 15 = .ok (.iadd, 1) := by decide +kernel
theorem dX6_greatestWithin_16 : decode cX6_greatestWithin 16 = .ok (.istore 4, 2) := by decide +kernel
theorem dX6_greatestWithin_18 : decode cX6_greatestWithin 18 = .ok (.iload 4, 2) := by decide +kernel
theorem dX6_greatestWithin_20 : decode cX6_greatestWithin 20 = .ok (.ifCond .lt 29, 3) := by decide +kernel
theorem dX6_greatestWithin_23 : decode cX6_greatestWithin 23 = .ok (.iload 4, 2) := by decide +kernel
theorem dX6_greatestWithin_25 : decode cX6_greatestWithin 25 = .ok (.aload_n 0, 1) := by decide +kernel
theorem dX6_greatestWithin_26 : decode cX6_greatestWithin 26 = .ok (.getfield 15, 3) := by decide +kernel
theorem dX6_greatestWithin_29 : decode cX6_greatestWithin 29 = .ok (.arraylength, 1) := by decide +kernel
theorem dX6_greatestWithin_30 : decode cX6_greatestWithin 30 = .ok (.if_icmp .ge 19, 3) := by decide +kernel
theorem dX6_greatestWithin_33 : decode cX6_greatestWithin 33 = .ok (.aload_n 0, 1) := by decide +kernel
theorem dX6_greatestWithin_34 : decode cX6_greatestWithin 34 = .ok (.getfield 15, 3) := by decide +kernel
theorem dX6_greatestWithin_37 : decode cX6_greatestWithin 37 = .ok (.iload 4, 2) := by decide +kernel
theorem dX6_greatestWithin_39 : decode cX6_greatestWithin 39 = .ok (.iaload, 1) := by decide +kernel
theorem dX6_greatestWithin_40 : decode cX6_greatestWithin 40 = .ok (.bipush 100, 2) := by decide +kernel
theorem dX6_greatestWithin_42 : decode cX6_greatestWithin 42 = .ok (.imul, 1) := by decide +kernel
theorem dX6_greatestWithin_43 : decode cX6_greatestWithin 43 = .ok (.iload_n 2, 1) := by decide +kernel
theorem dX6_greatestWithin_44 : decode cX6_greatestWithin 44 = .ok (.if_icmp .gt 5, 3) := by decide +kernel
theorem dX6_greatestWithin_47 : decode cX6_greatestWithin 47 = .ok (.iload_n 3, 1) := by decide +kernel
theorem dX6_greatestWithin_48 : decode cX6_greatestWithin 48 = .ok (.ireturn, 1) := by decide +kernel
theorem dX6_greatestWithin_49 : decode cX6_greatestWithin 49 = .ok (.iinc 3 (-1), 3) := by decide +kernel
theorem dX6_greatestWithin_52 : decode cX6_greatestWithin 52 = .ok (.goto (-45), 3) := by decide +kernel
theorem dX6_greatestWithin_55 : decode cX6_greatestWithin 55 = .ok (.iconst 0, 1) := by decide +kernel
theorem dX6_greatestWithin_56 : decode cX6_greatestWithin 56 = .ok (.ireturn, 1) := by decide +kernel
theorem dX7_init_0 : decode cX7_init 0 = .ok (.aload_n 0, 1) := by decide +kernel
theorem dX7_init_1 : decode cX7_init 1 = .ok (.invokespecial 1, 3) := by decide +kernel
theorem dX7_init_4 : decode cX7_init 4 = .ok (.aload_n 0, 1) := by decide +kernel
theorem dX7_init_5 : decode cX7_init 5 = .ok (.new 7, 3) := by decide +kernel
theorem dX7_init_8 : decode cX7_init 8 = .ok (.dup, 1) := by decide +kernel
theorem dX7_init_9 : decode cX7_init 9 = .ok (.invokespecial 9, 3) := by decide +kernel
theorem dX7_init_12 : decode cX7_init 12 = .ok (.putfield 10, 3) := by decide +kernel
theorem dX7_init_15 : decode cX7_init 15 = .ok (.aload_n 0, 1) := by decide +kernel
theorem dX7_init_16 : decode cX7_init 16 = .ok (.new 16, 3) := by decide +kernel
theorem dX7_init_19 : decode cX7_init 19 = .ok (.dup, 1) := by decide +kernel
theorem dX7_init_20 : decode cX7_init 20 = .ok (.invokespecial 18, 3) := by decide +kernel
theorem dX7_init_23 : decode cX7_init 23 = .ok (.putfield 19, 3) := by decide +kernel
theorem dX7_init_26 : decode cX7_init 26 = .ok (.aload_n 0, 1) := by decide +kernel
theorem dX7_init_27 : decode cX7_init 27 = .ok (.new 23, 3) := by decide +kernel
theorem dX7_init_30 : decode cX7_init 30 = .ok (.dup, 1) := by decide +kernel
theorem dX7_init_31 : decode cX7_init 31 = .ok (.aload_n 0, 1) := by decide +kernel
theorem dX7_init_32 : decode cX7_init 32 = .ok (.getfield 19, 3) := by decide +kernel
theorem dX7_init_35 : decode cX7_init 35 = .ok (.invokespecial 25, 3) := by decide +kernel
theorem dX7_init_38 : decode cX7_init 38 = .ok (.putfield 28, 3) := by decide +kernel
theorem dX7_init_41 : decode cX7_init 41 = .ok (.aload_n 0, 1) := by decide +kernel
theorem dX7_init_42 : decode cX7_init 42 = .ok (.new 32, 3) := by decide +kernel
theorem dX7_init_45 : decode cX7_init 45 = .ok (.dup, 1) := by decide +kernel
theorem dX7_init_46 : decode cX7_init 46 = .ok (.aload_n 0, 1) := by decide +kernel
theorem dX7_init_47 : decode cX7_init 47 = .ok (.getfield 28, 3) := by decide +kernel
theorem dX7_init_50 : decode cX7_init 50 = .ok (.invokespecial 34, 3) := by decide +kernel
theorem dX7_init_53 : decode cX7_init 53 = .ok (.putfield 37, 3) := by decide +kernel
theorem dX7_init_56 : decode cX7_init 56 = .ok (.aload_n 0, 1) := by decide +kernel
theorem dX7_init_57 : decode cX7_init 57 = .ok (.new 41, 3) := by decide +kernel
theorem dX7_init_60 : decode cX7_init 60 = .ok (.dup, 1) := by decide +kernel
theorem dX7_init_61 : decode cX7_init 61 = .ok (.aload_n 0, 1) := by decide +kernel
theorem dX7_init_62 : decode cX7_init 62 = .ok (.getfield 19, 3) := by decide +kernel
theorem dX7_init_65 : decode cX7_init 65 = .ok (.invokespecial 43, 3) := by decide +kernel
theorem dX7_init_68 : decode cX7_init 68 = .ok (.putfield 44, 3) := by decide +kernel
theorem dX7_init_71 : decode cX7_init 71 = .ok (.aload_n 0, 1) := by decide +kernel
theorem dX7_init_72 : decode cX7_init 72 = .ok (.iconst 2, 1) := by decide +kernel
theorem dX7_init_73 : decode cX7_init 73 = .ok (.anewarray 23, 3) := by decide +kernel
theorem dX7_init_76 : decode cX7_init 76 = .ok (.putfield 48, 3) := by decide +kernel
theorem dX7_init_79 : decode cX7_init 79 = .ok (.iconst 0, 1) := by decide +kernel
theorem dX7_init_80 : decode cX7_init 80 = .ok (.istore_n 1, 1) := by decide +kernel
theorem dX7_init_81 : decode cX7_init 81 = .ok (.iload_n 1, 1) := by decide +kernel
theorem dX7_init_82 : decode cX7_init 82 = .ok (.aload_n 0, 1) := by decide +kernel
theorem dX7_init_83 : decode cX7_init 83 = .ok (.getfield 48, 3) := by decide +kernel
theorem dX7_init_86 : decode cX7_init 86 = .ok (.arraylength, 1) := by decide +kernel
theorem dX7_init_87 : decode cX7_init 87 = .ok (.if_icmp .ge 26, 3) := by decide +kernel
theorem dX7_init_90 : decode cX7_init 90 = .ok (.aload_n 0, 1) := by decide +kernel
theorem dX7_init_91 : decode cX7_init 91 = .ok (.getfield 48, 3) := by decide +kernel
theorem dX7_init_94 : decode cX7_init 94 = .ok (.iload_n 1, 1) := by decide +kernel
theorem dX7_init_95 : decode cX7_init 95 = .ok (.new 23, 3) := by decide +kernel
theorem dX7_init_98 : decode cX7_init 98 = .ok (.dup, 1) := by decide +kernel
theorem dX7_init_99 : decode cX7_init 99 = .ok (.aload_n 0, 1) := by decide +kernel
theorem dX7_init_100 : decode cX7_init 100 = .ok (.getfield 19, 3) := by decide +kernel
theorem dX7_init_103 : decode cX7_init 103 = .ok (.invokespecial 25, 3) := by decide +kernel
theorem dX7_init_106 : decode cX7_init 106 = .ok (.aastore, 1) := by decide +kernel
theorem dX7_init_107 : decode cX7_init 107 = .ok (.iinc 1 1, 3) := by decide +kernel
theorem dX7_init_110 : decode cX7_init 110 = .ok (.goto (-29), 3) := by decide +kernel
theorem dX7_init_113 : decode cX7_init 113 = .ok (.aload_n 0, 1) := by decide +kernel
theorem dX7_init_114 : decode cX7_init 114 = .ok (.iconst 2, 1) := by decide +kernel
theorem dX7_init_115 : decode cX7_init 115 = .ok (.newarray .boolean, 2) := by decide +kernel
theorem dX7_init_117 : decode cX7_init 117 = .ok (.putfield 52, 3) := by decide +kernel
theorem dX7_init_120 : decode cX7_init 120 = .ok (.aload_n 0, 1) := by decide +kernel
theorem dX7_init_121 : decode cX7_init 121 = .ok (.getfield 28, 3) := by decide +kernel
theorem dX7_init_124 : decode cX7_init 124 = .ok (.invokevirtual 56, 3) := by decide +kernel
theorem dX7_init_127 : decode cX7_init 127 = .ok (.return_, 1) := by decide +kernel
theorem dX7_append_0 : decode cX7_append 0 = .ok (.aload_n 0, 1) := by decide +kernel
theorem dX7_append_1 : decode cX7_append 1 = .ok (.getfield 10, 3) := by decide +kernel
theorem dX7_append_4 : decode cX7_append 4 = .ok (.invokevirtual 59, 3) := by decide +kernel
theorem dX7_append_7 : decode cX7_append 7 = .ok (.ifCond .ne 5, 3) := by decide +kernel
theorem dX7_append_10 : decode cX7_append 10 = .ok (.iconst (-1), 1) := by decide +kernel
theorem dX7_append_11 : decode cX7_append 11 = .ok (.ireturn, 1) := by decide +kernel
theorem dX7_append_12 : decode cX7_append 12 = .ok (.aload_n 0, 1) := by decide +kernel
theorem dX7_append_13 : decode cX7_append 13 = .ok (.getfield 10, 3) := by decide +kernel
theorem dX7_append_16 : decode cX7_append 16 = .ok (.iload_n 1, 1) := by decide +kernel
theorem dX7_append_17 : decode cX7_append 17 = .ok (.invokevirtual 63, 3) := by decide +kernel
theorem dX7_append_20 : decode cX7_append 20 = .ok (.aload_n 0, 1) := by decide +kernel
theorem dX7_append_21 : decode cX7_append 21 = .ok (.getfield 10, 3) := by decide +kernel
theorem dX7_append_24 : decode cX7_append 24 = .ok (.iload_n 2, 1) := by decide +kernel
theorem dX7_append_25 : decode cX7_append 25 = .ok (.invokevirtual 63, 3) := by decide +kernel
theorem dX7_append_28 : decode cX7_append 28 = .ok (.aload_n 0, 1) := by decide +kernel
theorem dX7_append_29 : decode cX7_append 29 = .ok (.getfield 10, 3) := by decide +kernel
theorem dX7_append_32 : decode cX7_append 32 = .ok (.iload_n 3, 1) := by decide +kernel
theorem dX7_append_33 : decode cX7_append 33 = .ok (.invokevirtual 63, 3) := by decide +kernel
theorem dX7_append_36 : decode cX7_append 36 = .ok (.aload_n 0, 1) := by decide +kernel
theorem dX7_append_37 : decode cX7_append 37 = .ok (.getfield 10, 3) := by decide +kernel
theorem dX7_append_40 : decode cX7_append 40 = .ok (.iload 4, 2) := by decide +kernel
theorem dX7_append_42 : decode cX7_append 42 = .ok (.invokevirtual 63, 3) := by decide +kernel
theorem dX7_append_45 : decode cX7_append 45 = .ok (.aload_n 0, 1) := by decide +kernel
theorem dX7_append_46 : decode cX7_append 46 = .ok (.getfield 10, 3) := by decide +kernel
theorem dX7_append_49 : decode cX7_append 49 = .ok (.iload 5, 2) := by decide +kernel
theorem dX7_append_51 : decode cX7_append 51 = .ok (.invokevirtual 63, 3) := by decide +kernel
theorem dX7_append_54 : decode cX7_append 54 = .ok (.aload_n 0, 1) := by decide +kernel
theorem dX7_append_55 : decode cX7_append 55 = .ok (.getfield 10, 3) := by decide +kernel
theorem dX7_append_58 : decode cX7_append 58 = .ok (.getfield 67, 3) := by decide +kernel
theorem dX7_append_61 : decode cX7_append 61 = .ok (.ireturn, 1) := by decide +kernel
theorem dX7_parse_0 : decode cX7_parse 0 = .ok (.iload_n 1, 1) := by decide +kernel
theorem dX7_parse_1 : decode cX7_parse 1 = .ok (.ifCond .lt 14, 3) := by decide +kernel
theorem dX7_parse_4 : decode cX7_parse 4 = .ok (.iload_n 1, 1) := by decide +kernel
theorem dX7_parse_5 : decode cX7_parse 5 = .ok (.aload_n 0, 1) := by decide +kernel
theorem dX7_parse_6 : decode cX7_parse 6 = .ok (.getfield 10, 3) := by decide +kernel
theorem dX7_parse_9 : decode cX7_parse 9 = .ok (.getfield 67, 3) := by decide +kernel
theorem dX7_parse_12 : decode cX7_parse 12 = .ok (.if_icmp .le 11, 3) := by decide +kernel
theorem dX7_parse_15 : decode cX7_parse 15 = .ok (.new 71, 3) := by decide +kernel
theorem dX7_parse_18 : decode cX7_parse 18 = .ok (.dup, 1) := by decide +kernel
theorem dX7_parse_19 : decode cX7_parse 19 = .ok (.invokespecial 73, 3) := by decide +kernel
theorem dX7_parse_22 : decode cX7_parse 22 = .ok (.athrow, 1) := by decide +kernel
theorem dX7_parse_23 : decode cX7_parse 23 = .ok (.aload_n 0, 1) := by decide +kernel
theorem dX7_parse_24 : decode cX7_parse 24 = .ok (.getfield 10, 3) := by decide +kernel
theorem dX7_parse_27 : decode cX7_parse 27 = .ok (.iload_n 1, 1) := by decide +kernel
theorem dX7_parse_28 : decode cX7_parse 28 = .ok (.invokevirtual 74, 3) := by decide +kernel
theorem dX7_parse_31 : decode cX7_parse 31 = .ok (.istore_n 2, 1) := by decide +kernel
theorem dX7_parse_32 : decode cX7_parse 32 = .ok (.iload_n 2, 1) := by decide +kernel
theorem dX7_parse_33 : decode cX7_parse 33 = .ok (.ifCond .ne 55, 3) := by decide +kernel
theorem dX7_parse_36 : decode cX7_parse 36 = .ok (.aload_n 0, 1) := by decide +kernel
theorem dX7_parse_37 : decode cX7_parse 37 = .ok (.getfield 19, 3) := by decide +kernel
theorem dX7_parse_40 : decode cX7_parse 40 = .ok (.aload_n 0, 1) := by decide +kernel
theorem dX7_parse_41 : decode cX7_parse 41 = .ok (.getfield 10, 3) := by decide +kernel
theorem dX7_parse_44 : decode cX7_parse 44 = .ok (.getfield 78, 3) := by decide +kernel
theorem dX7_parse_47 : decode cX7_parse 47 = .ok (.invokevirtual 81, 3) := by decide +kernel
theorem dX7_parse_50 : decode cX7_parse 50 = .ok (.aload_n 0, 1) := by decide +kernel
theorem dX7_parse_51 : decode cX7_parse 51 = .ok (.getfield 28, 3) := by decide +kernel
theorem dX7_parse_54 : decode cX7_parse 54 = .ok (.invokevirtual 56, 3) := by decide +kernel
theorem dX7_parse_57 : decode cX7_parse 57 = .ok (.aload_n 0, 1) := by decide +kernel
theorem dX7_parse_58 : decode cX7_parse 58 = .ok (.getfield 44, 3) := by decide +kernel
theorem dX7_parse_61 : decode cX7_parse 61 = .ok (.invokevirtual 84, 3) := by decide +kernel
theorem dX7_parse_64 : decode cX7_parse 64 = .ok (.iconst 0, 1) := by decide +kernel
theorem dX7_parse_65 : decode cX7_parse 65 = .ok (.istore_n 3, 1) := by decide +kernel
theorem dX7_parse_66 : decode cX7_parse 66 = .ok (.iload_n 3, 1) := by decide +kernel
theorem dX7_parse_67 : decode cX7_parse 67 = .ok (.aload_n 0, 1) := by decide +kernel
theorem dX7_parse_68 : decode cX7_parse 68 = .ok (.getfield 52, 3) := by decide +kernel
theorem dX7_parse_71 : decode cX7_parse 71 = .ok (.arraylength, 1) := by decide +kernel
theorem dX7_parse_72 : decode cX7_parse 72 = .ok (.if_icmp .ge 16, 3) := by decide +kernel
theorem dX7_parse_75 : decode cX7_parse 75 = .ok (.aload_n 0, 1) := by decide +kernel
theorem dX7_parse_76 : decode cX7_parse 76 = .ok (.getfield 52, 3) := by decide +kernel
theorem dX7_parse_79 : decode cX7_parse 79 = .ok (.iload_n 3, 1) := by decide +kernel
theorem dX7_parse_80 : decode cX7_parse 80 = .ok (.iconst 0, 1) := by decide +kernel
theorem dX7_parse_81 : decode cX7_parse 81 = .ok (.bastore, 1) := by decide +kernel
theorem dX7_parse_82 : decode cX7_parse 82 = .ok (.iinc 3 1, 3) := by decide +kernel
theorem dX7_parse_85 : decode cX7_parse 85 = .ok (.goto (-19), 3) := by decide +kernel
theorem dX7_parse_88 : decode cX7_parse 88 = .ok (.iload_n 2, 1) := by decide +kernel
theorem dX7_parse_89 : decode cX7_parse 89 = .ok (.ireturn, 1) := by decide +kernel
theorem dX7_size_0 : decode cX7_size 0 = .ok (.iload_n 1, 1) := by decide +kernel
theorem dX7_size_1 : decode cX7_size 1 = .ok (.tableswitch 147 0 10 #[59, 67, 75, 83, 91, 99, 107, 115, 123, 131, 139], 59) := by decide +kernel
theorem dX7_size_60 : decode cX7_size 60 = .ok (.aload_n 0, 1) := by decide +kernel
theorem dX7_size_61 : decode cX7_size 61 = .ok (.getfield 19, 3) := by decide +kernel
theorem dX7_size_64 : decode cX7_size 64 = .ok (.getfield 90, 3) := by decide +kernel
theorem dX7_size_67 : decode cX7_size 67 = .ok (.ireturn, 1) := by decide +kernel
theorem dX7_size_68 : decode cX7_size 68 = .ok (.aload_n 0, 1) := by decide +kernel
theorem dX7_size_69 : decode cX7_size 69 = .ok (.getfield 19, 3) := by decide +kernel
theorem dX7_size_72 : decode cX7_size 72 = .ok (.getfield 93, 3) := by decide +kernel
theorem dX7_size_75 : decode cX7_size 75 = .ok (.ireturn, 1) := by decide +kernel
theorem dX7_size_76 : decode cX7_size 76 = .ok (.aload_n 0, 1) := by decide +kernel
theorem dX7_size_77 : decode cX7_size 77 = .ok (.getfield 19, 3) := by decide +kernel
theorem dX7_size_80 : decode cX7_size 80 = .ok (.getfield 96, 3) := by decide +kernel
theorem dX7_size_83 : decode cX7_size 83 = .ok (.ireturn, 1) := by decide +kernel
theorem dX7_size_84 : decode cX7_size 84 = .ok (.aload_n 0, 1) := by decide +kernel
theorem dX7_size_85 : decode cX7_size 85 = .ok (.getfield 19, 3) := by decide +kernel
theorem dX7_size_88 : decode cX7_size 88 = .ok (.getfield 99, 3) := by decide +kernel
theorem dX7_size_91 : decode cX7_size 91 = .ok (.ireturn, 1) := by decide +kernel
theorem dX7_size_92 : decode cX7_size 92 = .ok (.aload_n 0, 1) := by decide +kernel
theorem dX7_size_93 : decode cX7_size 93 = .ok (.getfield 19, 3) := by decide +kernel
theorem dX7_size_96 : decode cX7_size 96 = .ok (.getfield 102, 3) := by decide +kernel
theorem dX7_size_99 : decode cX7_size 99 = .ok (.ireturn, 1) := by decide +kernel
theorem dX7_size_100 : decode cX7_size 100 = .ok (.aload_n 0, 1) := by decide +kernel
theorem dX7_size_101 : decode cX7_size 101 = .ok (.getfield 19, 3) := by decide +kernel
theorem dX7_size_104 : decode cX7_size 104 = .ok (.getfield 105, 3) := by decide +kernel
theorem dX7_size_107 : decode cX7_size 107 = .ok (.ireturn, 1) := by decide +kernel
theorem dX7_size_108 : decode cX7_size 108 = .ok (.aload_n 0, 1) := by decide +kernel
theorem dX7_size_109 : decode cX7_size 109 = .ok (.getfield 19, 3) := by decide +kernel
theorem dX7_size_112 : decode cX7_size 112 = .ok (.getfield 108, 3) := by decide +kernel
theorem dX7_size_115 : decode cX7_size 115 = .ok (.ireturn, 1) := by decide +kernel
theorem dX7_size_116 : decode cX7_size 116 = .ok (.aload_n 0, 1) := by decide +kernel
theorem dX7_size_117 : decode cX7_size 117 = .ok (.getfield 28, 3) := by decide +kernel
theorem dX7_size_120 : decode cX7_size 120 = .ok (.getfield 111, 3) := by decide +kernel
theorem dX7_size_123 : decode cX7_size 123 = .ok (.ireturn, 1) := by decide +kernel
theorem dX7_size_124 : decode cX7_size 124 = .ok (.aload_n 0, 1) := by decide +kernel
theorem dX7_size_125 : decode cX7_size 125 = .ok (.getfield 28, 3) := by decide +kernel
theorem dX7_size_128 : decode cX7_size 128 = .ok (.invokevirtual 114, 3) := by decide +kernel
theorem dX7_size_131 : decode cX7_size 131 = .ok (.ireturn, 1) := by decide +kernel
theorem dX7_size_132 : decode cX7_size 132 = .ok (.aload_n 0, 1) := by decide +kernel
theorem dX7_size_133 : decode cX7_size 133 = .ok (.getfield 28, 3) := by decide +kernel
theorem dX7_size_136 : decode cX7_size 136 = .ok (.invokevirtual 118, 3) := by decide +kernel
theorem dX7_size_139 : decode cX7_size 139 = .ok (.ireturn, 1) := by decide +kernel
theorem dX7_size_140 : decode cX7_size 140 = .ok (.aload_n 0, 1) := by decide +kernel
theorem dX7_size_141 : decode cX7_size 141 = .ok (.getfield 44, 3) := by decide +kernel
theorem dX7_size_144 : decode cX7_size 144 = .ok (.getfield 121, 3) := by decide +kernel
theorem dX7_size_147 : decode cX7_size 147 = .ok (.ireturn, 1) := by decide +kernel
theorem dX7_size_148 : decode cX7_size 148 = .ok (.new 71, 3) := by decide +kernel
theorem dX7_size_151 : decode cX7_size 151 = .ok (.dup, 1) := by decide +kernel
theorem dX7_size_152 : decode cX7_size 152 = .ok (.invokespecial 73, 3) := by decide +kernel
theorem dX7_size_155 : decode cX7_size 155 = .ok (.athrow, 1) := by decide +kernel
theorem dX7_rate_0 : decode cX7_rate 0 = .ok (.iload_n 1, 1) := by decide +kernel
theorem dX7_rate_1 : decode cX7_rate 1 = .ok (.ifCond .ge 11, 3) := by decide +kernel
theorem dX7_rate_4 : decode cX7_rate 4 = .ok (.new 71, 3) := by decide +kernel
theorem dX7_rate_7 : decode cX7_rate 7 = .ok (.dup, 1) := by decide +kernel
theorem dX7_rate_8 : decode cX7_rate 8 = .ok (.invokespecial 73, 3) := by decide +kernel
theorem dX7_rate_11 : decode cX7_rate 11 = .ok (.athrow, 1) := by decide +kernel
theorem dX7_rate_12 : decode cX7_rate 12 = .ok (.aload_n 0, 1) := by decide +kernel
theorem dX7_rate_13 : decode cX7_rate 13 = .ok (.getfield 28, 3) := by decide +kernel
theorem dX7_rate_16 : decode cX7_rate 16 = .ok (.iload_n 1, 1) := by decide +kernel
theorem dX7_rate_17 : decode cX7_rate 17 = .ok (.invokevirtual 132, 3) := by decide +kernel
theorem dX7_rate_20 : decode cX7_rate 20 = .ok (.ireturn, 1) := by decide +kernel
theorem dX7_player_0 : decode cX7_player 0 = .ok (.aload_n 0, 1) := by decide +kernel
theorem dX7_player_1 : decode cX7_player 1 = .ok (.iload_n 1, 1) := by decide +kernel
theorem dX7_player_2 : decode cX7_player 2 = .ok (.invokevirtual 135, 3) := by decide +kernel
theorem dX7_player_5 : decode cX7_player 5 = .ok (.astore_n 3, 1) := by decide +kernel
theorem dX7_player_6 : decode cX7_player 6 = .ok (.iload_n 2, 1) := by decide +kernel
theorem dX7_player_7 : decode cX7_player 7 = .ok (.tableswitch 175 0 16 #[81, 86, 91, 96, 101, 106, 111, 116, 121, 126, 131, 136, 141, 146, 151, 159, 167], 81) := by decide +kernel
theorem dX7_player_88 : decode cX7_player 88 = .ok (.aload_n 3, 1) := by decide +kernel
theorem dX7_player_89 : decode cX7_player 89 = .ok (.getfield 139, 3) := by decide +kernel
theorem dX7_player_92 : decode cX7_player 92 = .ok (.ireturn, 1) := by decide +kernel
theorem dX7_player_93 : decode cX7_player 93 = .ok (.aload_n 3, 1) := by decide +kernel
theorem dX7_player_94 : decode cX7_player 94 = .ok (.getfield 144, 3) := by decide +kernel
theorem dX7_player_97 : decode cX7_player 97 = .ok (.ireturn, 1) := by decide +kernel
theorem dX7_player_98 : decode cX7_player 98 = .ok (.aload_n 3, 1) := by decide +kernel
theorem dX7_player_99 : decode cX7_player 99 = .ok (.getfield 147, 3) := by decide +kernel
theorem dX7_player_102 : decode cX7_player 102 = .ok (.ireturn, 1) := by decide +kernel
theorem dX7_player_103 : decode cX7_player 103 = .ok (.aload_n 3, 1) := by decide +kernel
theorem dX7_player_104 : decode cX7_player 104 = .ok (.getfield 148, 3) := by decide +kernel
theorem dX7_player_107 : decode cX7_player 107 = .ok (.ireturn, 1) := by decide +kernel
theorem dX7_player_108 : decode cX7_player 108 = .ok (.aload_n 3, 1) := by decide +kernel
theorem dX7_player_109 : decode cX7_player 109 = .ok (.getfield 151, 3) := by decide +kernel
theorem dX7_player_112 : decode cX7_player 112 = .ok (.ireturn, 1) := by decide +kernel
theorem dX7_player_113 : decode cX7_player 113 = .ok (.aload_n 3, 1) := by decide +kernel
theorem dX7_player_114 : decode cX7_player 114 = .ok (.getfield 154, 3) := by decide +kernel
theorem dX7_player_117 : decode cX7_player 117 = .ok (.ireturn, 1) := by decide +kernel
theorem dX7_player_118 : decode cX7_player 118 = .ok (.aload_n 3, 1) := by decide +kernel
theorem dX7_player_119 : decode cX7_player 119 = .ok (.getfield 157, 3) := by decide +kernel
theorem dX7_player_122 : decode cX7_player 122 = .ok (.ireturn, 1) := by decide +kernel
theorem dX7_player_123 : decode cX7_player 123 = .ok (.aload_n 3, 1) := by decide +kernel
theorem dX7_player_124 : decode cX7_player 124 = .ok (.getfield 160, 3) := by decide +kernel
theorem dX7_player_127 : decode cX7_player 127 = .ok (.ireturn, 1) := by decide +kernel
theorem dX7_player_128 : decode cX7_player 128 = .ok (.aload_n 3, 1) := by decide +kernel
theorem dX7_player_129 : decode cX7_player 129 = .ok (.invokevirtual 163, 3) := by decide +kernel
theorem dX7_player_132 : decode cX7_player 132 = .ok (.ireturn, 1) := by decide +kernel
theorem dX7_player_133 : decode cX7_player 133 = .ok (.aload_n 3, 1) := by decide +kernel
theorem dX7_player_134 : decode cX7_player 134 = .ok (.invokevirtual 166, 3) := by decide +kernel
theorem dX7_player_137 : decode cX7_player 137 = .ok (.ireturn, 1) := by decide +kernel
theorem dX7_player_138 : decode cX7_player 138 = .ok (.aload_n 3, 1) := by decide +kernel
theorem dX7_player_139 : decode cX7_player 139 = .ok (.getfield 169, 3) := by decide +kernel
theorem dX7_player_142 : decode cX7_player 142 = .ok (.ireturn, 1) := by decide +kernel
theorem dX7_player_143 : decode cX7_player 143 = .ok (.aload_n 3, 1) := by decide +kernel
theorem dX7_player_144 : decode cX7_player 144 = .ok (.getfield 172, 3) := by decide +kernel
theorem dX7_player_147 : decode cX7_player 147 = .ok (.ireturn, 1) := by decide +kernel
theorem dX7_player_148 : decode cX7_player 148 = .ok (.aload_n 3, 1) := by decide +kernel
theorem dX7_player_149 : decode cX7_player 149 = .ok (.getfield 175, 3) := by decide +kernel
theorem dX7_player_152 : decode cX7_player 152 = .ok (.ireturn, 1) := by decide +kernel
theorem dX7_player_153 : decode cX7_player 153 = .ok (.aload_n 3, 1) := by decide +kernel
theorem dX7_player_154 : decode cX7_player 154 = .ok (.getfield 178, 3) := by decide +kernel
theorem dX7_player_157 : decode cX7_player 157 = .ok (.ireturn, 1) := by decide +kernel
theorem dX7_player_158 : decode cX7_player 158 = .ok (.aload_n 3, 1) := by decide +kernel
theorem dX7_player_159 : decode cX7_player 159 = .ok (.getfield 181, 3) := by decide +kernel
theorem dX7_player_162 : decode cX7_player 162 = .ok (.getfield 185, 3) := by decide +kernel
theorem dX7_player_165 : decode cX7_player 165 = .ok (.ireturn, 1) := by decide +kernel
theorem dX7_player_166 : decode cX7_player 166 = .ok (.aload_n 3, 1) := by decide +kernel
theorem dX7_player_167 : decode cX7_player 167 = .ok (.getfield 181, 3) := by decide +kernel
theorem dX7_player_170 : decode cX7_player 170 = .ok (.getfield 190, 3) := by decide +kernel
theorem dX7_player_173 : decode cX7_player 173 = .ok (.ireturn, 1) := by decide +kernel
theorem dX7_player_174 : decode cX7_player 174 = .ok (.aload_n 3, 1) := by decide +kernel
theorem dX7_player_175 : decode cX7_player 175 = .ok (.getfield 181, 3) := by decide +kernel
theorem dX7_player_178 : decode cX7_player 178 = .ok (.getfield 193, 3) := by decide +kernel
theorem dX7_player_181 : decode cX7_player 181 = .ok (.ireturn, 1) := by decide +kernel
theorem dX7_player_182 : decode cX7_player 182 = .ok (.new 71, 3) := by decide +kernel
theorem dX7_player_185 : decode cX7_player 185 = .ok (.dup, 1) := by decide +kernel
theorem dX7_player_186 : decode cX7_player 186 = .ok (.invokespecial 73, 3) := by decide +kernel
theorem dX7_player_189 : decode cX7_player 189 = .ok (.athrow, 1) := by decide +kernel
theorem dX7_loaded_0 : decode cX7_loaded 0 = .ok (.aload_n 0, 1) := by decide +kernel
theorem dX7_loaded_1 : decode cX7_loaded 1 = .ok (.iload_n 1, 1) := by decide +kernel
theorem dX7_loaded_2 : decode cX7_loaded 2 = .ok (.invokevirtual 135, 3) := by decide +kernel
theorem dX7_loaded_5 : decode cX7_loaded 5 = .ok (.astore 4, 2) := by decide +kernel
theorem dX7_loaded_7 : decode cX7_loaded 7 = .ok (.iload_n 3, 1) := by decide +kernel
theorem dX7_loaded_8 : decode cX7_loaded 8 = .ok (.ifCond .lt 8, 3) := by decide +kernel
theorem dX7_loaded_11 : decode cX7_loaded 11 = .ok (.iload_n 3, 1) := by decide +kernel
theorem dX7_loaded_12 : decode cX7_loaded 12 = .ok (.iconst 3, 1) := by decide +kernel
theorem dX7_loaded_13 : decode cX7_loaded 13 = .ok (.if_icmp .le 11, 3) := by decide +kernel
theorem dX7_loaded_16 : decode cX7_loaded 16 = .ok (.new 71, 3) := by decide +kernel
theorem dX7_loaded_19 : decode cX7_loaded 19 = .ok (.dup, 1) := by decide +kernel
theorem dX7_loaded_20 : decode cX7_loaded 20 = .ok (.invokespecial 73, 3) := by decide +kernel
theorem dX7_loaded_23 : decode cX7_loaded 23 = .ok (.athrow, 1) := by decide +kernel
theorem dX7_loaded_24 : decode cX7_loaded 24 = .ok (.iload_n 2, 1) := by decide +kernel
theorem dX7_loaded_25 : decode cX7_loaded 25 = .ok (.ifCond .lt 18, 3) := by decide +kernel
theorem dX7_loaded_28 : decode cX7_loaded 28 = .ok (.iload_n 2, 1) := by decide +kernel
theorem dX7_loaded_29 : decode cX7_loaded 29 = .ok (.aload 4, 2) := by decide +kernel
theorem dX7_loaded_31 : decode cX7_loaded 31 = .ok (.getfield 147, 3) := by decide +kernel
theorem dX7_loaded_34 : decode cX7_loaded 34 = .ok (.if_icmp .ge 9, 3) := by decide +kernel
theorem dX7_loaded_37 : decode cX7_loaded 37 = .ok (.iload_n 2, 1) := by decide +kernel
theorem dX7_loaded_38 : decode cX7_loaded 38 = .ok (.bipush 30, 2) := by decide +kernel
theorem dX7_loaded_40 : decode cX7_loaded 40 = .ok (.if_icmp .lt 5, 3) := by decide +kernel
theorem dX7_loaded_43 : decode cX7_loaded 43 = .ok (.iconst (-1), 1) := by decide +kernel
theorem dX7_loaded_44 : decode cX7_loaded 44 = .ok (.ireturn, 1) := by decide +kernel
theorem dX7_loaded_45 : decode cX7_loaded 45 = .ok (.iload_n 3, 1) := by decide +kernel
theorem dX7_loaded_46 : decode cX7_loaded 46 = .ok (.tableswitch 59 0 2 #[26, 34, 51], 26) := by decide +kernel
theorem dX7_loaded_72 : decode cX7_loaded 72 = .ok (.aload 4, 2) := by decide +kernel
theorem dX7_loaded_74 : decode cX7_loaded 74 = .ok (.getfield 196, 3) := by decide +kernel
theorem dX7_loaded_77 : decode cX7_loaded 77 = .ok (.iload_n 2, 1) := by decide +kernel
theorem dX7_loaded_78 : decode cX7_loaded 78 = .ok (.iaload, 1) := by decide +kernel
theorem dX7_loaded_79 : decode cX7_loaded 79 = .ok (.ireturn, 1) := by decide +kernel
theorem dX7_loaded_80 : decode cX7_loaded 80 = .ok (.aload 4, 2) := by decide +kernel
theorem dX7_loaded_82 : decode cX7_loaded 82 = .ok (.getfield 181, 3) := by decide +kernel
theorem dX7_loaded_85 : decode cX7_loaded 85 = .ok (.iload_n 2, 1) := by decide +kernel
theorem dX7_loaded_86 : decode cX7_loaded 86 = .ok (.aload 4, 2) := by decide +kernel
theorem dX7_loaded_88 : decode cX7_loaded 88 = .ok (.getfield 196, 3) := by decide +kernel
theorem dX7_loaded_91 : decode cX7_loaded 91 = .ok (.iload_n 2, 1) := by decide +kernel
theorem dX7_loaded_92 : decode cX7_loaded 92 = .ok (.iaload, 1) := by decide +kernel
theorem dX7_loaded_93 : decode cX7_loaded 93 = .ok (.invokevirtual 199, 3) := by decide +kernel
theorem dX7_loaded_96 : decode cX7_loaded 96 = .ok (.ireturn, 1) := by decide +kernel
theorem dX7_loaded_97 : decode cX7_loaded 97 = .ok (.aload 4, 2) := by decide +kernel
theorem dX7_loaded_99 : decode cX7_loaded 99 = .ok (.getfield 203, 3) := by decide +kernel
theorem dX7_loaded_102 : decode cX7_loaded 102 = .ok (.iload_n 2, 1) := by decide +kernel
theorem dX7_loaded_103 : decode cX7_loaded 103 = .ok (.iaload, 1) := by decide +kernel
theorem dX7_loaded_104 : decode cX7_loaded 104 = .ok (.ireturn, 1) := by decide +kernel
theorem dX7_loaded_105 : decode cX7_loaded 105 = .ok (.aload 4, 2) := by decide +kernel
theorem dX7_loaded_107 : decode cX7_loaded 107 = .ok (.getfield 206, 3) := by decide +kernel
theorem dX7_loaded_110 : decode cX7_loaded 110 = .ok (.iload_n 2, 1) := by decide +kernel
theorem dX7_loaded_111 : decode cX7_loaded 111 = .ok (.iaload, 1) := by decide +kernel
theorem dX7_loaded_112 : decode cX7_loaded 112 = .ok (.ireturn, 1) := by decide +kernel
theorem dX7_wouldChoose_0 : decode cX7_wouldChoose 0 = .ok (.aload_n 0, 1) := by decide +kernel
theorem dX7_wouldChoose_1 : decode cX7_wouldChoose 1 = .ok (.iload_n 1, 1) := by decide +kernel
theorem dX7_wouldChoose_2 : decode cX7_wouldChoose 2 = .ok (.invokevirtual 135, 3) := by decide +kernel
theorem dX7_wouldChoose_5 : decode cX7_wouldChoose 5 = .ok (.astore_n 2, 1) := by decide +kernel
theorem dX7_wouldChoose_6 : decode cX7_wouldChoose 6 = .ok (.aload_n 2, 1) := by decide +kernel
theorem dX7_wouldChoose_7 : decode cX7_wouldChoose 7 = .ok (.invokevirtual 209, 3) := by decide +kernel
theorem dX7_wouldChoose_10 : decode cX7_wouldChoose 10 = .ok (.ifCond .ne 7, 3) := by decide +kernel
theorem dX7_wouldChoose_13 : decode cX7_wouldChoose 13 = .ok (.iconst (-1), 1) := by decide +kernel
theorem dX7_wouldChoose_14 : decode cX7_wouldChoose 14 = .ok (.goto 7, 3) := by decide +kernel
theorem dX7_wouldChoose_17 : decode cX7_wouldChoose 17 = .ok (.aload_n 2, 1) := by decide +kernel
theorem dX7_wouldChoose_18 : decode cX7_wouldChoose 18 = .ok (.invokevirtual 212, 3) := by decide +kernel
theorem dX7_wouldChoose_21 : decode cX7_wouldChoose 21 = .ok (.ireturn, 1) := by decide +kernel
theorem dX7_share_0 : decode cX7_share 0 = .ok (.aload_n 0, 1) := by decide +kernel
theorem dX7_share_1 : decode cX7_share 1 = .ok (.iload_n 1, 1) := by decide +kernel
theorem dX7_share_2 : decode cX7_share 2 = .ok (.invokevirtual 135, 3) := by decide +kernel
theorem dX7_share_5 : decode cX7_share 5 = .ok (.astore_n 2, 1) := by decide +kernel
theorem dX7_share_6 : decode cX7_share 6 = .ok (.aload_n 0, 1) := by decide +kernel
theorem dX7_share_7 : decode cX7_share 7 = .ok (.getfield 37, 3) := by decide +kernel
theorem dX7_share_10 : decode cX7_share 10 = .ok (.invokevirtual 215, 3) := by decide +kernel
theorem dX7_share_13 : decode cX7_share 13 = .ok (.iload_n 1, 1) := by decide +kernel
theorem dX7_share_14 : decode cX7_share 14 = .ok (.invokevirtual 219, 3) := by decide +kernel
theorem dX7_share_17 : decode cX7_share 17 = .ok (.getfield 169, 3) := by decide +kernel
theorem dX7_share_20 : decode cX7_share 20 = .ok (.aload_n 2, 1) := by decide +kernel
theorem dX7_share_21 : decode cX7_share 21 = .ok (.getfield 169, 3) := by decide +kernel
theorem dX7_share_24 : decode cX7_share 24 = .ok (.isub, 1) := by decide +kernel
theorem dX7_share_25 : decode cX7_share 25 = .ok (.ireturn, 1) := by decide +kernel
theorem dX7_forecast_0 : decode cX7_forecast 0 = .ok (.aload_n 0, 1) := by decide +kernel
theorem dX7_forecast_1 : decode cX7_forecast 1 = .ok (.iload_n 1, 1) := by decide +kernel
theorem dX7_forecast_2 : decode cX7_forecast 2 = .ok (.invokevirtual 222, 3) := by decide +kernel
theorem dX7_forecast_5 : decode cX7_forecast 5 = .ok (.iload_n 2, 1) := by decide +kernel
theorem dX7_forecast_6 : decode cX7_forecast 6 = .ok (.ifCond .lt 8, 3) := by decide +kernel
theorem dX7_forecast_9 : decode cX7_forecast 9 = .ok (.iload_n 2, 1) := by decide +kernel
theorem dX7_forecast_10 : decode cX7_forecast 10 = .ok (.iconst 5, 1) := by decide +kernel
theorem dX7_forecast_11 : decode cX7_forecast 11 = .ok (.if_icmp .le 11, 3) := by decide +kernel
theorem dX7_forecast_14 : decode cX7_forecast 14 = .ok (.new 71, 3) := by decide +kernel
theorem dX7_forecast_17 : decode cX7_forecast 17 = .ok (.dup, 1) := by decide +kernel
theorem dX7_forecast_18 : decode cX7_forecast 18 = .ok (.invokespecial 73, 3) := by decide +kernel
theorem dX7_forecast_21 : decode cX7_forecast 21 = .ok (.athrow, 1) := by decide +kernel
theorem dX7_forecast_22 : decode cX7_forecast 22 = .ok (.aload_n 0, 1) := by decide +kernel
theorem dX7_forecast_23 : decode cX7_forecast 23 = .ok (.getfield 37, 3) := by decide +kernel
theorem dX7_forecast_26 : decode cX7_forecast 26 = .ok (.invokevirtual 225, 3) := by decide +kernel
theorem dX7_forecast_29 : decode cX7_forecast 29 = .ok (.astore_n 3, 1) := by decide +kernel
theorem dX7_forecast_30 : decode cX7_forecast 30 = .ok (.aload_n 3, 1) := by decide +kernel
theorem dX7_forecast_31 : decode cX7_forecast 31 = .ok (.iload_n 1, 1) := by decide +kernel
theorem dX7_forecast_32 : decode cX7_forecast 32 = .ok (.invokevirtual 219, 3) := by decide +kernel
theorem dX7_forecast_35 : decode cX7_forecast 35 = .ok (.astore 4, 2) := by decide +kernel
theorem dX7_forecast_37 : decode cX7_forecast 37 = .ok (.iload_n 2, 1) := by decide +kernel
theorem dX7_forecast_38 : decode cX7_forecast 38 = .ok (.tableswitch 64 0 4 #[34, 40, 46, 52, 58], 34) := by decide +kernel
theorem dX7_forecast_72 : decode cX7_forecast 72 = .ok (.aload 4, 2) := by decide +kernel
theorem dX7_forecast_74 : decode cX7_forecast 74 = .ok (.getfield 157, 3) := by decide +kernel
theorem dX7_forecast_77 : decode cX7_forecast 77 = .ok (.ireturn, 1) := by decide +kernel
theorem dX7_forecast_78 : decode cX7_forecast 78 = .ok (.aload 4, 2) := by decide +kernel
theorem dX7_forecast_80 : decode cX7_forecast 80 = .ok (.getfield 160, 3) := by decide +kernel
theorem dX7_forecast_83 : decode cX7_forecast 83 = .ok (.ireturn, 1) := by decide +kernel
theorem dX7_forecast_84 : decode cX7_forecast 84 = .ok (.aload 4, 2) := by decide +kernel
theorem dX7_forecast_86 : decode cX7_forecast 86 = .ok (.invokevirtual 163, 3) := by decide +kernel
theorem dX7_forecast_89 : decode cX7_forecast 89 = .ok (.ireturn, 1) := by decide +kernel
theorem dX7_forecast_90 : decode cX7_forecast 90 = .ok (.aload 4, 2) := by decide +kernel
theorem dX7_forecast_92 : decode cX7_forecast 92 = .ok (.invokevirtual 166, 3) := by decide +kernel
theorem dX7_forecast_95 : decode cX7_forecast 95 = .ok (.ireturn, 1) := by decide +kernel
theorem dX7_forecast_96 : decode cX7_forecast 96 = .ok (.aload 4, 2) := by decide +kernel
theorem dX7_forecast_98 : decode cX7_forecast 98 = .ok (.getfield 147, 3) := by decide +kernel
theorem dX7_forecast_101 : decode cX7_forecast 101 = .ok (.ireturn, 1) := by decide +kernel
theorem dX7_forecast_102 : decode cX7_forecast 102 = .ok (.aload_n 3, 1) := by decide +kernel
theorem dX7_forecast_103 : decode cX7_forecast 103 = .ok (.getfield 111, 3) := by decide +kernel
theorem dX7_forecast_106 : decode cX7_forecast 106 = .ok (.ireturn, 1) := by decide +kernel
theorem dX7_steadyQuality_0 : decode cX7_steadyQuality 0 = .ok (.aload_n 0, 1) := by decide +kernel
theorem dX7_steadyQuality_1 : decode cX7_steadyQuality 1 = .ok (.iload_n 1, 1) := by decide +kernel
theorem dX7_steadyQuality_2 : decode cX7_steadyQuality 2 = .ok (.invokevirtual 135, 3) := by decide +kernel
theorem dX7_steadyQuality_5 : decode cX7_steadyQuality 5 = .ok (.astore_n 2, 1) := by decide +kernel
theorem dX7_steadyQuality_6 : decode cX7_steadyQuality 6 = .ok (.aload_n 2, 1) := by decide +kernel
theorem dX7_steadyQuality_7 : decode cX7_steadyQuality 7 = .ok (.invokevirtual 209, 3) := by decide +kernel
theorem dX7_steadyQuality_10 : decode cX7_steadyQuality 10 = .ok (.ifCond .ne 7, 3) := by decide +kernel
theorem dX7_steadyQuality_13 : decode cX7_steadyQuality 13 = .ok (.iconst (-1), 1) := by decide +kernel
theorem dX7_steadyQuality_14 : decode cX7_steadyQuality 14 = .ok (.goto 11, 3) := by decide +kernel
theorem dX7_steadyQuality_17 : decode cX7_steadyQuality 17 = .ok (.aload_n 0, 1) := by decide +kernel
theorem dX7_steadyQuality_18 : decode cX7_steadyQuality 18 = .ok (.getfield 37, 3) := by decide +kernel
theorem dX7_steadyQuality_21 : decode cX7_steadyQuality 21 = .ok (.iload_n 1, 1) := by decide +kernel
theorem dX7_steadyQuality_22 : decode cX7_steadyQuality 22 = .ok (.invokevirtual 228, 3) := by decide +kernel
theorem dX7_steadyQuality_25 : decode cX7_steadyQuality 25 = .ok (.ireturn, 1) := by decide +kernel
theorem dX7_oracle_0 : decode cX7_oracle 0 = .ok (.aload_n 0, 1) := by decide +kernel
theorem dX7_oracle_1 : decode cX7_oracle 1 = .ok (.iload_n 1, 1) := by decide +kernel
theorem dX7_oracle_2 : decode cX7_oracle 2 = .ok (.invokevirtual 135, 3) := by decide +kernel
theorem dX7_oracle_5 : decode cX7_oracle 5 = .ok (.astore_n 3, 1) := by decide +kernel
theorem dX7_oracle_6 : decode cX7_oracle 6 = .ok (.iload_n 2, 1) := by decide +kernel
theorem dX7_oracle_7 : decode cX7_oracle 7 = .ok (.ifCond .lt 11, 3) := by decide +kernel
theorem dX7_oracle_10 : decode cX7_oracle 10 = .ok (.iload_n 2, 1) := by decide +kernel
theorem dX7_oracle_11 : decode cX7_oracle 11 = .ok (.aload_n 3, 1) := by decide +kernel
theorem dX7_oracle_12 : decode cX7_oracle 12 = .ok (.invokevirtual 209, 3) := by decide +kernel
theorem dX7_oracle_15 : decode cX7_oracle 15 = .ok (.if_icmp .lt 5, 3) := by decide +kernel
theorem dX7_oracle_18 : decode cX7_oracle 18 = .ok (.iconst (-1), 1) := by decide +kernel
theorem dX7_oracle_19 : decode cX7_oracle 19 = .ok (.ireturn, 1) := by decide +kernel
theorem dX7_oracle_20 : decode cX7_oracle 20 = .ok (.aload_n 3, 1) := by decide +kernel
theorem dX7_oracle_21 : decode cX7_oracle 21 = .ok (.invokevirtual 231, 3) := by decide +kernel
theorem dX7_oracle_24 : decode cX7_oracle 24 = .ok (.iload_n 2, 1) := by decide +kernel
theorem dX7_oracle_25 : decode cX7_oracle 25 = .ok (.iadd, 1) := by decide +kernel
theorem dX7_oracle_26 : decode cX7_oracle 26 = .ok (.istore 4, 2) := by decide +kernel
theorem dX7_oracle_28 : decode cX7_oracle 28 = .ok (.aload_n 0, 1) := by decide +kernel
theorem dX7_oracle_29 : decode cX7_oracle 29 = .ok (.getfield 37, 3) := by decide +kernel
theorem dX7_oracle_32 : decode cX7_oracle 32 = .ok (.iload_n 1, 1) := by decide +kernel
theorem dX7_oracle_33 : decode cX7_oracle 33 = .ok (.iload 4, 2) := by decide +kernel
theorem dX7_oracle_35 : decode cX7_oracle 35 = .ok (.invokevirtual 234, 3) := by decide +kernel
theorem dX7_oracle_38 : decode cX7_oracle 38 = .ok (.aload_n 0, 1) := by decide +kernel
theorem dX7_oracle_39 : decode cX7_oracle 39 = .ok (.getfield 37, 3) := by decide +kernel
theorem dX7_oracle_42 : decode cX7_oracle 42 = .ok (.iload 4, 2) := by decide +kernel
theorem dX7_oracle_44 : decode cX7_oracle 44 = .ok (.invokevirtual 238, 3) := by decide +kernel
theorem dX7_oracle_47 : decode cX7_oracle 47 = .ok (.ireturn, 1) := by decide +kernel
theorem dX7_regret_0 : decode cX7_regret 0 = .ok (.aload_n 0, 1) := by decide +kernel
theorem dX7_regret_1 : decode cX7_regret 1 = .ok (.iload_n 1, 1) := by decide +kernel
theorem dX7_regret_2 : decode cX7_regret 2 = .ok (.invokevirtual 135, 3) := by decide +kernel
theorem dX7_regret_5 : decode cX7_regret 5 = .ok (.astore_n 2, 1) := by decide +kernel
theorem dX7_regret_6 : decode cX7_regret 6 = .ok (.aload_n 2, 1) := by decide +kernel
theorem dX7_regret_7 : decode cX7_regret 7 = .ok (.invokevirtual 209, 3) := by decide +kernel
theorem dX7_regret_10 : decode cX7_regret 10 = .ok (.ifCond .ne 5, 3) := by decide +kernel
theorem dX7_regret_13 : decode cX7_regret 13 = .ok (.iconst 0, 1) := by decide +kernel
theorem dX7_regret_14 : decode cX7_regret 14 = .ok (.ireturn, 1) := by decide +kernel
theorem dX7_regret_15 : decode cX7_regret 15 = .ok (.aload_n 0, 1) := by decide +kernel
theorem dX7_regret_16 : decode cX7_regret 16 = .ok (.getfield 37, 3) := by decide +kernel
theorem dX7_regret_19 : decode cX7_regret 19 = .ok (.invokevirtual 225, 3) := by decide +kernel
theorem dX7_regret_22 : decode cX7_regret 22 = .ok (.iload_n 1, 1) := by decide +kernel
theorem dX7_regret_23 : decode cX7_regret 23 = .ok (.invokevirtual 219, 3) := by decide +kernel
theorem dX7_regret_26 : decode cX7_regret 26 = .ok (.invokevirtual 166, 3) := by decide +kernel
theorem dX7_regret_29 : decode cX7_regret 29 = .ok (.istore_n 3, 1) := by decide +kernel
theorem dX7_regret_30 : decode cX7_regret 30 = .ok (.aload_n 0, 1) := by decide +kernel
theorem dX7_regret_31 : decode cX7_regret 31 = .ok (.getfield 37, 3) := by decide +kernel
theorem dX7_regret_34 : decode cX7_regret 34 = .ok (.iload_n 1, 1) := by decide +kernel
theorem dX7_regret_35 : decode cX7_regret 35 = .ok (.aload_n 2, 1) := by decide +kernel
theorem dX7_regret_36 : decode cX7_regret 36 = .ok (.getfield 181, 3) := by decide +kernel
theorem dX7_regret_39 : decode cX7_regret 39 = .ok (.getfield 185, 3) := by decide +kernel
theorem dX7_regret_42 : decode cX7_regret 42 = .ok (.iconst 1, 1) := by decide +kernel
theorem dX7_regret_43 : decode cX7_regret 43 = .ok (.isub, 1) := by decide +kernel
theorem dX7_regret_44 : decode cX7_regret 44 = .ok (.invokevirtual 234, 3) := by decide +kernel
theorem dX7_regret_47 : decode cX7_regret 47 = .ok (.aload_n 0, 1) := by decide +kernel
theorem dX7_regret_48 : decode cX7_regret 48 = .ok (.getfield 37, 3) := by decide +kernel
theorem dX7_regret_51 : decode cX7_regret 51 = .ok (.iload_n 1, 1) := by decide +kernel
theorem dX7_regret_52 : decode cX7_regret 52 = .ok (.invokevirtual 241, 3) := by decide +kernel
theorem dX7_regret_55 : decode cX7_regret 55 = .ok (.invokevirtual 166, 3) := by decide +kernel
theorem dX7_regret_58 : decode cX7_regret 58 = .ok (.iload_n 3, 1) := by decide +kernel
theorem dX7_regret_59 : decode cX7_regret 59 = .ok (.isub, 1) := by decide +kernel
theorem dX7_regret_60 : decode cX7_regret 60 = .ok (.ireturn, 1) := by decide +kernel
theorem dX7_fairness_0 : decode cX7_fairness 0 = .ok (.dconst 0, 1) := by decide +kernel
theorem dX7_fairness_1 : decode cX7_fairness 1 = .ok (.dstore_n 1, 1) := by decide +kernel
theorem dX7_fairness_2 : decode cX7_fairness 2 = .ok (.dconst 0, 1) := by decide +kernel
theorem dX7_fairness_3 : decode cX7_fairness 3 = .ok (.dstore_n 3, 1) := by decide +kernel
theorem dX7_fairness_4 : decode cX7_fairness 4 = .ok (.aload_n 0, 1) := by decide +kernel
theorem dX7_fairness_5 : decode cX7_fairness 5 = .ok (.getfield 28, 3) := by decide +kernel
theorem dX7_fairness_8 : decode cX7_fairness 8 = .ok (.getfield 247, 3) := by decide +kernel
theorem dX7_fairness_11 : decode cX7_fairness 11 = .ok (.astore 5, 2) := by decide +kernel
theorem dX7_fairness_13 : decode cX7_fairness 13 = .ok (.aload 5, 2) := by decide +kernel
theorem dX7_fairness_15 : decode cX7_fairness 15 = .ok (.arraylength, 1) := by decide +kernel
theorem dX7_fairness_16 : decode cX7_fairness 16 = .ok (.istore 6, 2) := by decide +kernel
theorem dX7_fairness_18 : decode cX7_fairness 18 = .ok (.iconst 0, 1) := by decide +kernel
theorem dX7_fairness_19 : decode cX7_fairness 19 = .ok (.istore 7, 2) := by decide +kernel
theorem dX7_fairness_21 : decode cX7_fairness 21 = .ok (.iload 7, 2) := by decide +kernel
theorem dX7_fairness_23 : decode cX7_fairness 23 = .ok (.iload 6, 2) := by decide +kernel
theorem dX7_fairness_25 : decode cX7_fairness 25 = .ok (.if_icmp .ge 52, 3) := by decide +kernel
theorem dX7_fairness_28 : decode cX7_fairness 28 = .ok (.aload 5, 2) := by decide +kernel
theorem dX7_fairness_30 : decode cX7_fairness 30 = .ok (.iload 7, 2) := by decide +kernel
theorem dX7_fairness_32 : decode cX7_fairness 32 = .ok (.aaload, 1) := by decide +kernel
theorem dX7_fairness_33 : decode cX7_fairness 33 = .ok (.astore 8, 2) := by decide +kernel
theorem dX7_fairness_35 : decode cX7_fairness 35 = .ok (.aload 8, 2) := by decide +kernel
theorem dX7_fairness_37 : decode cX7_fairness 37 = .ok (.getfield 178, 3) := by decide +kernel
theorem dX7_fairness_40 : decode cX7_fairness 40 = .ok (.ifCond .le 31, 3) := by decide +kernel
theorem dX7_fairness_43 : decode cX7_fairness 43 = .ok (.aload 8, 2) := by decide +kernel
theorem dX7_fairness_45 : decode cX7_fairness 45 = .ok (.getfield 169, 3) := by decide +kernel
theorem dX7_fairness_48 : decode cX7_fairness 48 = .ok (.i2d, 1) := by decide +kernel
theorem dX7_fairness_49 : decode cX7_fairness 49 = .ok (.aload 8, 2) := by decide +kernel
theorem dX7_fairness_51 : decode cX7_fairness 51 = .ok (.getfield 178, 3) := by decide +kernel
theorem dX7_fairness_54 : decode cX7_fairness 54 = .ok (.i2d, 1) := by decide +kernel
theorem dX7_fairness_55 : decode cX7_fairness 55 = .ok (.ddiv, 1) := by decide +kernel
theorem dX7_fairness_56 : decode cX7_fairness 56 = .ok (.dstore 9, 2) := by decide +kernel
theorem dX7_fairness_58 : decode cX7_fairness 58 = .ok (.dload_n 1, 1) := by decide +kernel
theorem dX7_fairness_59 : decode cX7_fairness 59 = .ok (.dload 9, 2) := by decide +kernel
theorem dX7_fairness_61 : decode cX7_fairness 61 = .ok (.dadd, 1) := by decide +kernel
theorem dX7_fairness_62 : decode cX7_fairness 62 = .ok (.dstore_n 1, 1) := by decide +kernel
theorem dX7_fairness_63 : decode cX7_fairness 63 = .ok (.dload_n 3, 1) := by decide +kernel
theorem dX7_fairness_64 : decode cX7_fairness 64 = .ok (.dload 9, 2) := by decide +kernel
theorem dX7_fairness_66 : decode cX7_fairness 66 = .ok (.dload 9, 2) := by decide +kernel
theorem dX7_fairness_68 : decode cX7_fairness 68 = .ok (.dmul, 1) := by decide +kernel
theorem dX7_fairness_69 : decode cX7_fairness 69 = .ok (.dadd, 1) := by decide +kernel
theorem dX7_fairness_70 : decode cX7_fairness 70 = .ok (.dstore_n 3, 1) := by decide +kernel
theorem dX7_fairness_71 : decode cX7_fairness 71 = .ok (.iinc 7 1, 3) := by decide +kernel
theorem dX7_fairness_74 : decode cX7_fairness 74 = .ok (.goto (-53), 3) := by decide +kernel
theorem dX7_fairness_77 : decode cX7_fairness 77 = .ok (.dload_n 3, 1) := by decide +kernel
theorem dX7_fairness_78 : decode cX7_fairness 78 = .ok (.dconst 0, 1) := by decide +kernel
theorem dX7_fairness_79 : decode cX7_fairness 79 = .ok (.dcmp .l, 1) := by decide +kernel
theorem dX7_fairness_80 : decode cX7_fairness 80 = .ok (.ifCond .le 30, 3) := by decide +kernel
theorem dX7_fairness_83 : decode cX7_fairness 83 = .ok (.aload_n 0, 1) := by decide +kernel
theorem dX7_fairness_84 : decode cX7_fairness 84 = .ok (.getfield 19, 3) := by decide +kernel
theorem dX7_fairness_87 : decode cX7_fairness 87 = .ok (.getfield 90, 3) := by decide +kernel
theorem dX7_fairness_90 : decode cX7_fairness 90 = .ok (.ifCond .le 20, 3) := by decide +kernel
theorem dX7_fairness_93 : decode cX7_fairness 93 = .ok (.dload_n 1, 1) := by decide +kernel
theorem dX7_fairness_94 : decode cX7_fairness 94 = .ok (.dload_n 1, 1) := by decide +kernel
theorem dX7_fairness_95 : decode cX7_fairness 95 = .ok (.dmul, 1) := by decide +kernel
theorem dX7_fairness_96 : decode cX7_fairness 96 = .ok (.aload_n 0, 1) := by decide +kernel
theorem dX7_fairness_97 : decode cX7_fairness 97 = .ok (.getfield 19, 3) := by decide +kernel
theorem dX7_fairness_100 : decode cX7_fairness 100 = .ok (.getfield 90, 3) := by decide +kernel
theorem dX7_fairness_103 : decode cX7_fairness 103 = .ok (.i2d, 1) := by decide +kernel
theorem dX7_fairness_104 : decode cX7_fairness 104 = .ok (.dload_n 3, 1) := by decide +kernel
theorem dX7_fairness_105 : decode cX7_fairness 105 = .ok (.dmul, 1) := by decide +kernel
theorem dX7_fairness_106 : decode cX7_fairness 106 = .ok (.ddiv, 1) := by decide +kernel
theorem dX7_fairness_107 : decode cX7_fairness 107 = .ok (.goto 4, 3) := by decide +kernel
theorem dX7_fairness_110 : decode cX7_fairness 110 = .ok (.dconst 1, 1) := by decide +kernel
theorem dX7_fairness_111 : decode cX7_fairness 111 = .ok (.dreturn, 1) := by decide +kernel
theorem dX7_meanQuality_0 : decode cX7_meanQuality 0 = .ok (.aload_n 0, 1) := by decide +kernel
theorem dX7_meanQuality_1 : decode cX7_meanQuality 1 = .ok (.iload_n 1, 1) := by decide +kernel
theorem dX7_meanQuality_2 : decode cX7_meanQuality 2 = .ok (.invokevirtual 135, 3) := by decide +kernel
theorem dX7_meanQuality_5 : decode cX7_meanQuality 5 = .ok (.astore_n 2, 1) := by decide +kernel
theorem dX7_meanQuality_6 : decode cX7_meanQuality 6 = .ok (.aload_n 2, 1) := by decide +kernel
theorem dX7_meanQuality_7 : decode cX7_meanQuality 7 = .ok (.getfield 147, 3) := by decide +kernel
theorem dX7_meanQuality_10 : decode cX7_meanQuality 10 = .ok (.ifCond .le 17, 3) := by decide +kernel
theorem dX7_meanQuality_13 : decode cX7_meanQuality 13 = .ok (.aload_n 2, 1) := by decide +kernel
theorem dX7_meanQuality_14 : decode cX7_meanQuality 14 = .ok (.invokevirtual 166, 3) := by decide +kernel
theorem dX7_meanQuality_17 : decode cX7_meanQuality 17 = .ok (.i2d, 1) := by decide +kernel
theorem dX7_meanQuality_18 : decode cX7_meanQuality 18 = .ok (.aload_n 2, 1) := by decide +kernel
theorem dX7_meanQuality_19 : decode cX7_meanQuality 19 = .ok (.getfield 147, 3) := by decide +kernel
theorem dX7_meanQuality_22 : decode cX7_meanQuality 22 = .ok (.i2d, 1) := by decide +kernel
theorem dX7_meanQuality_23 : decode cX7_meanQuality 23 = .ok (.ddiv, 1) := by decide +kernel
theorem dX7_meanQuality_24 : decode cX7_meanQuality 24 = .ok (.goto 4, 3) := by decide +kernel
theorem dX7_meanQuality_27 : decode cX7_meanQuality 27 = .ok (.dconst 0, 1) := by decide +kernel
theorem dX7_meanQuality_28 : decode cX7_meanQuality 28 = .ok (.dreturn, 1) := by decide +kernel
theorem dX7_isWhole_0 : decode cX7_isWhole 0 = .ok (.aload_n 0, 1) := by decide +kernel
theorem dX7_isWhole_1 : decode cX7_isWhole 1 = .ok (.getfield 28, 3) := by decide +kernel
theorem dX7_isWhole_4 : decode cX7_isWhole 4 = .ok (.invokevirtual 250, 3) := by decide +kernel
theorem dX7_isWhole_7 : decode cX7_isWhole 7 = .ok (.ireturn, 1) := by decide +kernel
theorem dX7_account_0 : decode cX7_account 0 = .ok (.iload_n 1, 1) := by decide +kernel
theorem dX7_account_1 : decode cX7_account 1 = .ok (.tableswitch 63 0 3 #[31, 39, 47, 55], 31) := by decide +kernel
theorem dX7_account_32 : decode cX7_account 32 = .ok (.aload_n 0, 1) := by decide +kernel
theorem dX7_account_33 : decode cX7_account 33 = .ok (.getfield 28, 3) := by decide +kernel
theorem dX7_account_36 : decode cX7_account 36 = .ok (.getfield 253, 3) := by decide +kernel
theorem dX7_account_39 : decode cX7_account 39 = .ok (.ireturn, 1) := by decide +kernel
theorem dX7_account_40 : decode cX7_account 40 = .ok (.aload_n 0, 1) := by decide +kernel
theorem dX7_account_41 : decode cX7_account 41 = .ok (.getfield 28, 3) := by decide +kernel
theorem dX7_account_44 : decode cX7_account 44 = .ok (.getfield 256, 3) := by decide +kernel
theorem dX7_account_47 : decode cX7_account 47 = .ok (.ireturn, 1) := by decide +kernel
theorem dX7_account_48 : decode cX7_account 48 = .ok (.aload_n 0, 1) := by decide +kernel
theorem dX7_account_49 : decode cX7_account 49 = .ok (.getfield 28, 3) := by decide +kernel
theorem dX7_account_52 : decode cX7_account 52 = .ok (.invokevirtual 259, 3) := by decide +kernel
theorem dX7_account_55 : decode cX7_account 55 = .ok (.ireturn, 1) := by decide +kernel
theorem dX7_account_56 : decode cX7_account 56 = .ok (.aload_n 0, 1) := by decide +kernel
theorem dX7_account_57 : decode cX7_account 57 = .ok (.getfield 28, 3) := by decide +kernel
theorem dX7_account_60 : decode cX7_account 60 = .ok (.invokevirtual 262, 3) := by decide +kernel
theorem dX7_account_63 : decode cX7_account 63 = .ok (.ireturn, 1) := by decide +kernel
theorem dX7_account_64 : decode cX7_account 64 = .ok (.new 71, 3) := by decide +kernel
theorem dX7_account_67 : decode cX7_account 67 = .ok (.dup, 1) := by decide +kernel
theorem dX7_account_68 : decode cX7_account 68 = .ok (.invokespecial 73, 3) := by decide +kernel
theorem dX7_account_71 : decode cX7_account 71 = .ok (.athrow, 1) := by decide +kernel
theorem dX7_run_0 : decode cX7_run 0 = .ok (.iload_n 1, 1) := by decide +kernel
theorem dX7_run_1 : decode cX7_run 1 = .ok (.iconst 1, 1) := by decide +kernel
theorem dX7_run_2 : decode cX7_run 2 = .ok (.if_icmp .lt 10, 3) := by decide +kernel
theorem dX7_run_5 : decode cX7_run 5 = .ok (.iload_n 1, 1) := by decide +kernel
theorem dX7_run_6 : decode cX7_run 6 = .ok (.sipush 200, 3) := by decide +kernel
theorem dX7_run_9 : decode cX7_run 9 = .ok (.if_icmp .le 11, 3) := by decide +kernel
theorem dX7_run_12 : decode cX7_run 12 = .ok (.new 71, 3) := by decide +kernel
theorem dX7_run_15 : decode cX7_run 15 = .ok (.dup, 1) := by decide +kernel
theorem dX7_run_16 : decode cX7_run 16 = .ok (.invokespecial 73, 3) := by decide +kernel
theorem dX7_run_19 : decode cX7_run 19 = .ok (.athrow, 1) := by decide +kernel
theorem dX7_run_20 : decode cX7_run 20 = .ok (.aload_n 0, 1) := by decide +kernel
theorem dX7_run_21 : decode cX7_run 21 = .ok (.getfield 28, 3) := by decide +kernel
theorem dX7_run_24 : decode cX7_run 24 = .ok (.getfield 111, 3) := by decide +kernel
theorem dX7_run_27 : decode cX7_run 27 = .ok (.iload_n 1, 1) := by decide +kernel
theorem dX7_run_28 : decode cX7_run 28 = .ok (.iadd, 1) := by decide +kernel
theorem dX7_run_29 : decode cX7_run 29 = .ok (.sipush 2000, 3) := by decide +kernel
theorem dX7_run_32 : decode cX7_run 32 = .ok (.if_icmp .le 11, 3) := by decide +kernel
theorem dX7_run_35 : decode cX7_run 35 = .ok (.new 265, 3) := by decide +kernel
theorem dX7_run_38 : decode cX7_run 38 = .ok (.dup, 1) := by decide +kernel
theorem dX7_run_39 : decode cX7_run 39 = .ok (.invokespecial 267, 3) := by decide +kernel
theorem dX7_run_42 : decode cX7_run 42 = .ok (.athrow, 1) := by decide +kernel
theorem dX7_run_43 : decode cX7_run 43 = .ok (.aload_n 0, 1) := by decide +kernel
theorem dX7_run_44 : decode cX7_run 44 = .ok (.getfield 44, 3) := by decide +kernel
theorem dX7_run_47 : decode cX7_run 47 = .ok (.aload_n 0, 1) := by decide +kernel
theorem dX7_run_48 : decode cX7_run 48 = .ok (.getfield 28, 3) := by decide +kernel
theorem dX7_run_51 : decode cX7_run 51 = .ok (.invokevirtual 268, 3) := by decide +kernel
theorem dX7_run_54 : decode cX7_run 54 = .ok (.iconst 0, 1) := by decide +kernel
theorem dX7_run_55 : decode cX7_run 55 = .ok (.istore_n 2, 1) := by decide +kernel
theorem dX7_run_56 : decode cX7_run 56 = .ok (.iload_n 2, 1) := by decide +kernel
theorem dX7_run_57 : decode cX7_run 57 = .ok (.iload_n 1, 1) := by decide +kernel
theorem dX7_run_58 : decode cX7_run 58 = .ok (.if_icmp .ge 16, 3) := by decide +kernel
theorem dX7_run_61 : decode cX7_run 61 = .ok (.aload_n 0, 1) := by decide +kernel
theorem dX7_run_62 : decode cX7_run 62 = .ok (.getfield 28, 3) := by decide +kernel
theorem dX7_run_65 : decode cX7_run 65 = .ok (.invokevirtual 271, 3) := by decide +kernel
theorem dX7_run_68 : decode cX7_run 68 = .ok (.iinc 2 1, 3) := by decide +kernel
theorem dX7_run_71 : decode cX7_run 71 = .ok (.goto (-15), 3) := by decide +kernel
theorem dX7_run_74 : decode cX7_run 74 = .ok (.aload_n 0, 1) := by decide +kernel
theorem dX7_run_75 : decode cX7_run 75 = .ok (.getfield 28, 3) := by decide +kernel
theorem dX7_run_78 : decode cX7_run 78 = .ok (.getfield 111, 3) := by decide +kernel
theorem dX7_run_81 : decode cX7_run 81 = .ok (.ireturn, 1) := by decide +kernel
theorem dX7_setRule_0 : decode cX7_setRule 0 = .ok (.aload_n 0, 1) := by decide +kernel
theorem dX7_setRule_1 : decode cX7_setRule 1 = .ok (.iload_n 1, 1) := by decide +kernel
theorem dX7_setRule_2 : decode cX7_setRule 2 = .ok (.invokevirtual 135, 3) := by decide +kernel
theorem dX7_setRule_5 : decode cX7_setRule 5 = .ok (.astore_n 3, 1) := by decide +kernel
theorem dX7_setRule_6 : decode cX7_setRule 6 = .ok (.iload_n 2, 1) := by decide +kernel
theorem dX7_setRule_7 : decode cX7_setRule 7 = .ok (.ifCond .lt 8, 3) := by decide +kernel
theorem dX7_setRule_10 : decode cX7_setRule 10 = .ok (.iload_n 2, 1) := by decide +kernel
theorem dX7_setRule_11 : decode cX7_setRule 11 = .ok (.iconst 3, 1) := by decide +kernel
theorem dX7_setRule_12 : decode cX7_setRule 12 = .ok (.if_icmp .le 11, 3) := by decide +kernel
theorem dX7_setRule_15 : decode cX7_setRule 15 = .ok (.new 71, 3) := by decide +kernel
theorem dX7_setRule_18 : decode cX7_setRule 18 = .ok (.dup, 1) := by decide +kernel
theorem dX7_setRule_19 : decode cX7_setRule 19 = .ok (.invokespecial 73, 3) := by decide +kernel
theorem dX7_setRule_22 : decode cX7_setRule 22 = .ok (.athrow, 1) := by decide +kernel
theorem dX7_setRule_23 : decode cX7_setRule 23 = .ok (.aload_n 0, 1) := by decide +kernel
theorem dX7_setRule_24 : decode cX7_setRule 24 = .ok (.getfield 44, 3) := by decide +kernel
theorem dX7_setRule_27 : decode cX7_setRule 27 = .ok (.aload_n 0, 1) := by decide +kernel
theorem dX7_setRule_28 : decode cX7_setRule 28 = .ok (.getfield 28, 3) := by decide +kernel
theorem dX7_setRule_31 : decode cX7_setRule 31 = .ok (.invokevirtual 268, 3) := by decide +kernel
theorem dX7_setRule_34 : decode cX7_setRule 34 = .ok (.aload_n 3, 1) := by decide +kernel
theorem dX7_setRule_35 : decode cX7_setRule 35 = .ok (.getfield 175, 3) := by decide +kernel
theorem dX7_setRule_38 : decode cX7_setRule 38 = .ok (.istore 4, 2) := by decide +kernel
theorem dX7_setRule_40 : decode cX7_setRule 40 = .ok (.aload_n 3, 1) := by decide +kernel
theorem dX7_setRule_41 : decode cX7_setRule 41 = .ok (.iload_n 2, 1) := by decide +kernel
theorem dX7_setRule_42 : decode cX7_setRule 42 = .ok (.putfield 175, 3) := by decide +kernel
theorem dX7_setRule_45 : decode cX7_setRule 45 = .ok (.iload 4, 2) := by decide +kernel
theorem dX7_setRule_47 : decode cX7_setRule 47 = .ok (.ireturn, 1) := by decide +kernel
theorem dX7_setWeight_0 : decode cX7_setWeight 0 = .ok (.aload_n 0, 1) := by decide +kernel
theorem dX7_setWeight_1 : decode cX7_setWeight 1 = .ok (.iload_n 1, 1) := by decide +kernel
theorem dX7_setWeight_2 : decode cX7_setWeight 2 = .ok (.invokevirtual 135, 3) := by decide +kernel
theorem dX7_setWeight_5 : decode cX7_setWeight 5 = .ok (.astore_n 3, 1) := by decide +kernel
theorem dX7_setWeight_6 : decode cX7_setWeight 6 = .ok (.iload_n 2, 1) := by decide +kernel
theorem dX7_setWeight_7 : decode cX7_setWeight 7 = .ok (.iconst 1, 1) := by decide +kernel
theorem dX7_setWeight_8 : decode cX7_setWeight 8 = .ok (.if_icmp .lt 9, 3) := by decide +kernel
theorem dX7_setWeight_11 : decode cX7_setWeight 11 = .ok (.iload_n 2, 1) := by decide +kernel
theorem dX7_setWeight_12 : decode cX7_setWeight 12 = .ok (.bipush 9, 2) := by decide +kernel
theorem dX7_setWeight_14 : decode cX7_setWeight 14 = .ok (.if_icmp .le 11, 3) := by decide +kernel
theorem dX7_setWeight_17 : decode cX7_setWeight 17 = .ok (.new 71, 3) := by decide +kernel
theorem dX7_setWeight_20 : decode cX7_setWeight 20 = .ok (.dup, 1) := by decide +kernel
theorem dX7_setWeight_21 : decode cX7_setWeight 21 = .ok (.invokespecial 73, 3) := by decide +kernel
theorem dX7_setWeight_24 : decode cX7_setWeight 24 = .ok (.athrow, 1) := by decide +kernel
theorem dX7_setWeight_25 : decode cX7_setWeight 25 = .ok (.aload_n 0, 1) := by decide +kernel
theorem dX7_setWeight_26 : decode cX7_setWeight 26 = .ok (.getfield 44, 3) := by decide +kernel
theorem dX7_setWeight_29 : decode cX7_setWeight 29 = .ok (.aload_n 0, 1) := by decide +kernel
theorem dX7_setWeight_30 : decode cX7_setWeight 30 = .ok (.getfield 28, 3) := by decide +kernel
theorem dX7_setWeight_33 : decode cX7_setWeight 33 = .ok (.invokevirtual 268, 3) := by decide +kernel
theorem dX7_setWeight_36 : decode cX7_setWeight 36 = .ok (.aload_n 3, 1) := by decide +kernel
theorem dX7_setWeight_37 : decode cX7_setWeight 37 = .ok (.getfield 178, 3) := by decide +kernel
theorem dX7_setWeight_40 : decode cX7_setWeight 40 = .ok (.istore 4, 2) := by decide +kernel
theorem dX7_setWeight_42 : decode cX7_setWeight 42 = .ok (.aload_n 3, 1) := by decide +kernel
theorem dX7_setWeight_43 : decode cX7_setWeight 43 = .ok (.iload_n 2, 1) := by decide +kernel
theorem dX7_setWeight_44 : decode cX7_setWeight 44 = .ok (.putfield 178, 3) := by decide +kernel
theorem dX7_setWeight_47 : decode cX7_setWeight 47 = .ok (.iload 4, 2) := by decide +kernel
theorem dX7_setWeight_49 : decode cX7_setWeight 49 = .ok (.ireturn, 1) := by decide +kernel
theorem dX7_setRate_0 : decode cX7_setRate 0 = .ok (.iload_n 1, 1) := by decide +kernel
theorem dX7_setRate_1 : decode cX7_setRate 1 = .ok (.ifCond .lt 26, 3) := by decide +kernel
theorem dX7_setRate_4 : decode cX7_setRate 4 = .ok (.iload_n 1, 1) := by decide +kernel
theorem dX7_setRate_5 : decode cX7_setRate 5 = .ok (.aload_n 0, 1) := by decide +kernel
theorem dX7_setRate_6 : decode cX7_setRate 6 = .ok (.getfield 19, 3) := by decide +kernel
theorem dX7_setRate_9 : decode cX7_setRate 9 = .ok (.getfield 93, 3) := by decide +kernel
theorem dX7_setRate_12 : decode cX7_setRate 12 = .ok (.if_icmp .ge 15, 3) := by decide +kernel
theorem dX7_setRate_15 : decode cX7_setRate 15 = .ok (.iload_n 1, 1) := by decide +kernel
theorem dX7_setRate_16 : decode cX7_setRate 16 = .ok (.aload_n 0, 1) := by decide +kernel
theorem dX7_setRate_17 : decode cX7_setRate 17 = .ok (.getfield 28, 3) := by decide +kernel
theorem dX7_setRate_20 : decode cX7_setRate 20 = .ok (.getfield 274, 3) := by decide +kernel
theorem dX7_setRate_23 : decode cX7_setRate 23 = .ok (.arraylength, 1) := by decide +kernel
theorem dX7_setRate_24 : decode cX7_setRate 24 = .ok (.if_icmp .lt 11, 3) := by decide +kernel
theorem dX7_setRate_27 : decode cX7_setRate 27 = .ok (.new 277, 3) := by decide +kernel
theorem dX7_setRate_30 : decode cX7_setRate 30 = .ok (.dup, 1) := by decide +kernel
theorem dX7_setRate_31 : decode cX7_setRate 31 = .ok (.invokespecial 279, 3) := by decide +kernel
theorem dX7_setRate_34 : decode cX7_setRate 34 = .ok (.athrow, 1) := by decide +kernel
theorem dX7_setRate_35 : decode cX7_setRate 35 = .ok (.iload_n 2, 1) := by decide +kernel
theorem dX7_setRate_36 : decode cX7_setRate 36 = .ok (.ifCond .lt 10, 3) := by decide +kernel
theorem dX7_setRate_39 : decode cX7_setRate 39 = .ok (.iload_n 2, 1) := by decide +kernel
theorem dX7_setRate_40 : decode cX7_setRate 40 = .ok (.sipush 9999, 3) := by decide +kernel
theorem dX7_setRate_43 : decode cX7_setRate 43 = .ok (.if_icmp .le 11, 3) := by decide +kernel
theorem dX7_setRate_46 : decode cX7_setRate 46 = .ok (.new 71, 3) := by decide +kernel
theorem dX7_setRate_49 : decode cX7_setRate 49 = .ok (.dup, 1) := by decide +kernel
theorem dX7_setRate_50 : decode cX7_setRate 50 = .ok (.invokespecial 73, 3) := by decide +kernel
theorem dX7_setRate_53 : decode cX7_setRate 53 = .ok (.athrow, 1) := by decide +kernel
theorem dX7_setRate_54 : decode cX7_setRate 54 = .ok (.aload_n 0, 1) := by decide +kernel
theorem dX7_setRate_55 : decode cX7_setRate 55 = .ok (.getfield 44, 3) := by decide +kernel
theorem dX7_setRate_58 : decode cX7_setRate 58 = .ok (.aload_n 0, 1) := by decide +kernel
theorem dX7_setRate_59 : decode cX7_setRate 59 = .ok (.getfield 28, 3) := by decide +kernel
theorem dX7_setRate_62 : decode cX7_setRate 62 = .ok (.invokevirtual 268, 3) := by decide +kernel
theorem dX7_setRate_65 : decode cX7_setRate 65 = .ok (.aload_n 0, 1) := by decide +kernel
theorem dX7_setRate_66 : decode cX7_setRate 66 = .ok (.getfield 28, 3) := by decide +kernel
theorem dX7_setRate_69 : decode cX7_setRate 69 = .ok (.getfield 274, 3) := by decide +kernel
theorem dX7_setRate_72 : decode cX7_setRate 72 = .ok (.iload_n 1, 1) := by decide +kernel
theorem dX7_setRate_73 : decode cX7_setRate 73 = .ok (.iaload, 1) := by decide +kernel
theorem dX7_setRate_74 : decode cX7_setRate 74 = .ok (.istore_n 3, 1) := by decide +kernel
theorem dX7_setRate_75 : decode cX7_setRate 75 = .ok (.aload_n 0, 1) := by decide +kernel
theorem dX7_setRate_76 : decode cX7_setRate 76 = .ok (.getfield 28, 3) := by decide +kernel
theorem dX7_setRate_79 : decode cX7_setRate 79 = .ok (.getfield 274, 3) := by decide +kernel
theorem dX7_setRate_82 : decode cX7_setRate 82 = .ok (.iload_n 1, 1) := by decide +kernel
theorem dX7_setRate_83 : decode cX7_setRate 83 = .ok (.iload_n 2, 1) := by decide +kernel
theorem dX7_setRate_84 : decode cX7_setRate 84 = .ok (.iastore, 1) := by decide +kernel
theorem dX7_setRate_85 : decode cX7_setRate 85 = .ok (.iload_n 3, 1) := by decide +kernel
theorem dX7_setRate_86 : decode cX7_setRate 86 = .ok (.ireturn, 1) := by decide +kernel
theorem dX7_quit_0 : decode cX7_quit 0 = .ok (.aload_n 0, 1) := by decide +kernel
theorem dX7_quit_1 : decode cX7_quit 1 = .ok (.iload_n 1, 1) := by decide +kernel
theorem dX7_quit_2 : decode cX7_quit 2 = .ok (.invokevirtual 135, 3) := by decide +kernel
theorem dX7_quit_5 : decode cX7_quit 5 = .ok (.astore_n 2, 1) := by decide +kernel
theorem dX7_quit_6 : decode cX7_quit 6 = .ok (.aload_n 2, 1) := by decide +kernel
theorem dX7_quit_7 : decode cX7_quit 7 = .ok (.invokevirtual 280, 3) := by decide +kernel
theorem dX7_quit_10 : decode cX7_quit 10 = .ok (.ifCond .ne 11, 3) := by decide +kernel
theorem dX7_quit_13 : decode cX7_quit 13 = .ok (.new 265, 3) := by decide +kernel
theorem dX7_quit_16 : decode cX7_quit 16 = .ok (.dup, 1) := by decide +kernel
theorem dX7_quit_17 : decode cX7_quit 17 = .ok (.invokespecial 267, 3) := by decide +kernel
theorem dX7_quit_20 : decode cX7_quit 20 = .ok (.athrow, 1) := by decide +kernel
theorem dX7_quit_21 : decode cX7_quit 21 = .ok (.aload_n 0, 1) := by decide +kernel
theorem dX7_quit_22 : decode cX7_quit 22 = .ok (.getfield 44, 3) := by decide +kernel
theorem dX7_quit_25 : decode cX7_quit 25 = .ok (.aload_n 0, 1) := by decide +kernel
theorem dX7_quit_26 : decode cX7_quit 26 = .ok (.getfield 28, 3) := by decide +kernel
theorem dX7_quit_29 : decode cX7_quit 29 = .ok (.invokevirtual 268, 3) := by decide +kernel
theorem dX7_quit_32 : decode cX7_quit 32 = .ok (.aload_n 2, 1) := by decide +kernel
theorem dX7_quit_33 : decode cX7_quit 33 = .ok (.iconst 4, 1) := by decide +kernel
theorem dX7_quit_34 : decode cX7_quit 34 = .ok (.putfield 139, 3) := by decide +kernel
theorem dX7_quit_37 : decode cX7_quit 37 = .ok (.aload_n 2, 1) := by decide +kernel
theorem dX7_quit_38 : decode cX7_quit 38 = .ok (.invokevirtual 283, 3) := by decide +kernel
theorem dX7_quit_41 : decode cX7_quit 41 = .ok (.ireturn, 1) := by decide +kernel
theorem dX7_testPlayer_0 : decode cX7_testPlayer 0 = .ok (.iload_n 1, 1) := by decide +kernel
theorem dX7_testPlayer_1 : decode cX7_testPlayer 1 = .ok (.ifCond .lt 14, 3) := by decide +kernel
theorem dX7_testPlayer_4 : decode cX7_testPlayer 4 = .ok (.iload_n 1, 1) := by decide +kernel
theorem dX7_testPlayer_5 : decode cX7_testPlayer 5 = .ok (.aload_n 0, 1) := by decide +kernel
theorem dX7_testPlayer_6 : decode cX7_testPlayer 6 = .ok (.getfield 19, 3) := by decide +kernel
theorem dX7_testPlayer_9 : decode cX7_testPlayer 9 = .ok (.getfield 90, 3) := by decide +kernel
theorem dX7_testPlayer_12 : decode cX7_testPlayer 12 = .ok (.if_icmp .lt 11, 3) := by decide +kernel
theorem dX7_testPlayer_15 : decode cX7_testPlayer 15 = .ok (.new 277, 3) := by decide +kernel
theorem dX7_testPlayer_18 : decode cX7_testPlayer 18 = .ok (.dup, 1) := by decide +kernel
theorem dX7_testPlayer_19 : decode cX7_testPlayer 19 = .ok (.invokespecial 279, 3) := by decide +kernel
theorem dX7_testPlayer_22 : decode cX7_testPlayer 22 = .ok (.athrow, 1) := by decide +kernel
theorem dX7_testPlayer_23 : decode cX7_testPlayer 23 = .ok (.return_, 1) := by decide +kernel
theorem dX7_seatOf_0 : decode cX7_seatOf 0 = .ok (.aload_n 0, 1) := by decide +kernel
theorem dX7_seatOf_1 : decode cX7_seatOf 1 = .ok (.iload_n 1, 1) := by decide +kernel
theorem dX7_seatOf_2 : decode cX7_seatOf 2 = .ok (.invokevirtual 222, 3) := by decide +kernel
theorem dX7_seatOf_5 : decode cX7_seatOf 5 = .ok (.aload_n 0, 1) := by decide +kernel
theorem dX7_seatOf_6 : decode cX7_seatOf 6 = .ok (.getfield 28, 3) := by decide +kernel
theorem dX7_seatOf_9 : decode cX7_seatOf 9 = .ok (.iload_n 1, 1) := by decide +kernel
theorem dX7_seatOf_10 : decode cX7_seatOf 10 = .ok (.invokevirtual 219, 3) := by decide +kernel
theorem dX7_seatOf_13 : decode cX7_seatOf 13 = .ok (.areturn, 1) := by decide +kernel
theorem dX7_copyRow_0 : decode cX7_copyRow 0 = .ok (.iconst 0, 1) := by decide +kernel
theorem dX7_copyRow_1 : decode cX7_copyRow 1 = .ok (.istore_n 2, 1) := by decide +kernel
theorem dX7_copyRow_2 : decode cX7_copyRow 2 = .ok (.iload_n 2, 1) := by decide +kernel
theorem dX7_copyRow_3 : decode cX7_copyRow 3 = .ok (.aload_n 0, 1) := by decide +kernel
theorem dX7_copyRow_4 : decode cX7_copyRow 4 = .ok (.arraylength, 1) := by decide +kernel
theorem dX7_copyRow_5 : decode cX7_copyRow 5 = .ok (.if_icmp .ge 21, 3) := by decide +kernel
theorem dX7_copyRow_8 : decode cX7_copyRow 8 = .ok (.iload_n 2, 1) := by decide +kernel
theorem dX7_copyRow_9 : decode cX7_copyRow 9 = .ok (.aload_n 1, 1) := by decide +kernel
theorem dX7_copyRow_10 : decode cX7_copyRow 10 = .ok (.arraylength, 1) := by decide +kernel
theorem dX7_copyRow_11 : decode cX7_copyRow 11 = .ok (.if_icmp .ge 15, 3) := by decide +kernel
theorem dX7_copyRow_14 : decode cX7_copyRow 14 = .ok (.aload_n 1, 1) := by decide +kernel
theorem dX7_copyRow_15 : decode cX7_copyRow 15 = .ok (.iload_n 2, 1) := by decide +kernel
theorem dX7_copyRow_16 : decode cX7_copyRow 16 = .ok (.aload_n 0, 1) := by decide +kernel
theorem dX7_copyRow_17 : decode cX7_copyRow 17 = .ok (.iload_n 2, 1) := by decide +kernel
theorem dX7_copyRow_18 : decode cX7_copyRow 18 = .ok (.iaload, 1) := by decide +kernel
theorem dX7_copyRow_19 : decode cX7_copyRow 19 = .ok (.iastore, 1) := by decide +kernel
theorem dX7_copyRow_20 : decode cX7_copyRow 20 = .ok (.iinc 2 1, 3) := by decide +kernel
theorem dX7_copyRow_23 : decode cX7_copyRow 23 = .ok (.goto (-21), 3) := by decide +kernel
theorem dX7_copyRow_26 : decode cX7_copyRow 26 = .ok (.return_, 1) := by decide +kernel
theorem dX7_clearRow_0 : decode cX7_clearRow 0 = .ok (.iconst 0, 1) := by decide +kernel
theorem dX7_clearRow_1 : decode cX7_clearRow 1 = .ok (.istore_n 1, 1) := by decide +kernel
theorem dX7_clearRow_2 : decode cX7_clearRow 2 = .ok (.iload_n 1, 1) := by decide +kernel
theorem dX7_clearRow_3 : decode cX7_clearRow 3 = .ok (.aload_n 0, 1) := by decide +kernel
theorem dX7_clearRow_4 : decode cX7_clearRow 4 = .ok (.arraylength, 1) := by decide +kernel
theorem dX7_clearRow_5 : decode cX7_clearRow 5 = .ok (.if_icmp .ge 13, 3) := by decide +kernel
theorem dX7_clearRow_8 : decode cX7_clearRow 8 = .ok (.aload_n 0, 1) := by decide +kernel
theorem dX7_clearRow_9 : decode cX7_clearRow 9 = .ok (.iload_n 1, 1) := by decide +kernel
theorem dX7_clearRow_10 : decode cX7_clearRow 10 = .ok (.iconst 0, 1) := by decide +kernel
theorem dX7_clearRow_11 : decode cX7_clearRow 11 = .ok (.iastore, 1) := by decide +kernel
theorem dX7_clearRow_12 : decode cX7_clearRow 12 = .ok (.iinc 1 1, 3) := by decide +kernel
theorem dX7_clearRow_15 : decode cX7_clearRow 15 = .ok (.goto (-13), 3) := by decide +kernel
theorem dX7_clearRow_18 : decode cX7_clearRow 18 = .ok (.return_, 1) := by decide +kernel
theorem dX8_init_0 : decode cX8_init 0 = .ok (.aload_n 0, 1) := by decide +kernel
theorem dX8_init_1 : decode cX8_init 1 = .ok (.invokespecial 1, 3) := by decide +kernel
theorem dX8_init_4 : decode cX8_init 4 = .ok (.aload_n 0, 1) := by decide +kernel
theorem dX8_init_5 : decode cX8_init 5 = .ok (.iconst (-1), 1) := by decide +kernel
theorem dX8_init_6 : decode cX8_init 6 = .ok (.putfield 7, 3) := by decide +kernel
theorem dX8_init_9 : decode cX8_init 9 = .ok (.aload_n 0, 1) := by decide +kernel
theorem dX8_init_10 : decode cX8_init 10 = .ok (.bipush 8, 2) := by decide +kernel
theorem dX8_init_12 : decode cX8_init 12 = .ok (.newarray .int, 2) := by decide +kernel
theorem dX8_init_14 : decode cX8_init 14 = .ok (.putfield 13, 3) := by decide +kernel
theorem dX8_init_17 : decode cX8_init 17 = .ok (.aload_n 0, 1) := by decide +kernel
theorem dX8_init_18 : decode cX8_init 18 = .ok (.bipush 8, 2) := by decide +kernel
theorem dX8_init_20 : decode cX8_init 20 = .ok (.newarray .int, 2) := by decide +kernel
theorem dX8_init_22 : decode cX8_init 22 = .ok (.putfield 17, 3) := by decide +kernel
theorem dX8_init_25 : decode cX8_init 25 = .ok (.aload_n 0, 1) := by decide +kernel
theorem dX8_init_26 : decode cX8_init 26 = .ok (.iconst 4, 1) := by decide +kernel
theorem dX8_init_27 : decode cX8_init 27 = .ok (.newarray .int, 2) := by decide +kernel
theorem dX8_init_29 : decode cX8_init 29 = .ok (.putfield 20, 3) := by decide +kernel
theorem dX8_init_32 : decode cX8_init 32 = .ok (.aload_n 0, 1) := by decide +kernel
theorem dX8_init_33 : decode cX8_init 33 = .ok (.iconst 4, 1) := by decide +kernel
theorem dX8_init_34 : decode cX8_init 34 = .ok (.newarray .int, 2) := by decide +kernel
theorem dX8_init_36 : decode cX8_init 36 = .ok (.putfield 23, 3) := by decide +kernel
theorem dX8_init_39 : decode cX8_init 39 = .ok (.aload_n 0, 1) := by decide +kernel
theorem dX8_init_40 : decode cX8_init 40 = .ok (.iconst 4, 1) := by decide +kernel
theorem dX8_init_41 : decode cX8_init 41 = .ok (.newarray .int, 2) := by decide +kernel
theorem dX8_init_43 : decode cX8_init 43 = .ok (.putfield 26, 3) := by decide +kernel
theorem dX8_init_46 : decode cX8_init 46 = .ok (.aload_n 0, 1) := by decide +kernel
theorem dX8_init_47 : decode cX8_init 47 = .ok (.iconst 4, 1) := by decide +kernel
theorem dX8_init_48 : decode cX8_init 48 = .ok (.anewarray 29, 3) := by decide +kernel
theorem dX8_init_51 : decode cX8_init 51 = .ok (.dup, 1) := by decide +kernel
theorem dX8_init_52 : decode cX8_init 52 = .ok (.iconst 0, 1) := by decide +kernel
theorem dX8_init_53 : decode cX8_init 53 = .ok (.new 29, 3) := by decide +kernel
theorem dX8_init_56 : decode cX8_init 56 = .ok (.dup, 1) := by decide +kernel
theorem dX8_init_57 : decode cX8_init 57 = .ok (.invokespecial 31, 3) := by decide +kernel
theorem dX8_init_60 : decode cX8_init 60 = .ok (.aastore, 1) := by decide +kernel
theorem dX8_init_61 : decode cX8_init 61 = .ok (.dup, 1) := by decide +kernel
theorem dX8_init_62 : decode cX8_init 62 = .ok (.iconst 1, 1) := by decide +kernel
theorem dX8_init_63 : decode cX8_init 63 = .ok (.new 29, 3) := by decide +kernel
theorem dX8_init_66 : decode cX8_init 66 = .ok (.dup, 1) := by decide +kernel
theorem dX8_init_67 : decode cX8_init 67 = .ok (.invokespecial 31, 3) := by decide +kernel
theorem dX8_init_70 : decode cX8_init 70 = .ok (.aastore, 1) := by decide +kernel
theorem dX8_init_71 : decode cX8_init 71 = .ok (.dup, 1) := by decide +kernel
theorem dX8_init_72 : decode cX8_init 72 = .ok (.iconst 2, 1) := by decide +kernel
theorem dX8_init_73 : decode cX8_init 73 = .ok (.new 29, 3) := by decide +kernel
theorem dX8_init_76 : decode cX8_init 76 = .ok (.dup, 1) := by decide +kernel
theorem dX8_init_77 : decode cX8_init 77 = .ok (.invokespecial 31, 3) := by decide +kernel
theorem dX8_init_80 : decode cX8_init 80 = .ok (.aastore, 1) := by decide +kernel
theorem dX8_init_81 : decode cX8_init 81 = .ok (.dup, 1) := by decide +kernel
theorem dX8_init_82 : decode cX8_init 82 = .ok (.iconst 3, 1) := by decide +kernel
theorem dX8_init_83 : decode cX8_init 83 = .ok (.new 29, 3) := by decide +kernel
theorem dX8_init_86 : decode cX8_init 86 = .ok (.dup, 1) := by decide +kernel
theorem dX8_init_87 : decode cX8_init 87 = .ok (.invokespecial 31, 3) := by decide +kernel
theorem dX8_init_90 : decode cX8_init 90 = .ok (.aastore, 1) := by decide +kernel
theorem dX8_init_91 : decode cX8_init 91 = .ok (.putfield 32, 3) := by decide +kernel
theorem dX8_init_94 : decode cX8_init 94 = .ok (.return_, 1) := by decide +kernel
theorem dX8_be_0 : decode cX8_be 0 = .ok (.aload_n 0, 1) := by decide +kernel
theorem dX8_be_1 : decode cX8_be 1 = .ok (.aload_n 1, 1) := by decide +kernel
theorem dX8_be_2 : decode cX8_be 2 = .ok (.getfield 36, 3) := by decide +kernel
theorem dX8_be_5 : decode cX8_be 5 = .ok (.putfield 36, 3) := by decide +kernel
theorem dX8_be_8 : decode cX8_be 8 = .ok (.aload_n 0, 1) := by decide +kernel
theorem dX8_be_9 : decode cX8_be 9 = .ok (.aload_n 1, 1) := by decide +kernel
theorem dX8_be_10 : decode cX8_be 10 = .ok (.getfield 39, 3) := by decide +kernel
theorem dX8_be_13 : decode cX8_be 13 = .ok (.putfield 39, 3) := by decide +kernel
theorem dX8_be_16 : decode cX8_be 16 = .ok (.aload_n 0, 1) := by decide +kernel
theorem dX8_be_17 : decode cX8_be 17 = .ok (.aload_n 1, 1) := by decide +kernel
theorem dX8_be_18 : decode cX8_be 18 = .ok (.getfield 42, 3) := by decide +kernel
theorem dX8_be_21 : decode cX8_be 21 = .ok (.putfield 42, 3) := by decide +kernel
theorem dX8_be_24 : decode cX8_be 24 = .ok (.aload_n 0, 1) := by decide +kernel
theorem dX8_be_25 : decode cX8_be 25 = .ok (.aload_n 1, 1) := by decide +kernel
theorem dX8_be_26 : decode cX8_be 26 = .ok (.getfield 45, 3) := by decide +kernel
theorem dX8_be_29 : decode cX8_be 29 = .ok (.putfield 45, 3) := by decide +kernel
theorem dX8_be_32 : decode cX8_be 32 = .ok (.aload_n 0, 1) := by decide +kernel
theorem dX8_be_33 : decode cX8_be 33 = .ok (.aload_n 1, 1) := by decide +kernel
theorem dX8_be_34 : decode cX8_be 34 = .ok (.getfield 48, 3) := by decide +kernel
theorem dX8_be_37 : decode cX8_be 37 = .ok (.putfield 48, 3) := by decide +kernel
theorem dX8_be_40 : decode cX8_be 40 = .ok (.aload_n 0, 1) := by decide +kernel
theorem dX8_be_41 : decode cX8_be 41 = .ok (.aload_n 1, 1) := by decide +kernel
theorem dX8_be_42 : decode cX8_be 42 = .ok (.getfield 51, 3) := by decide +kernel
theorem dX8_be_45 : decode cX8_be 45 = .ok (.putfield 51, 3) := by decide +kernel
theorem dX8_be_48 : decode cX8_be 48 = .ok (.aload_n 0, 1) := by decide +kernel
theorem dX8_be_49 : decode cX8_be 49 = .ok (.aload_n 1, 1) := by decide +kernel
theorem dX8_be_50 : decode cX8_be 50 = .ok (.getfield 54, 3) := by decide +kernel
theorem dX8_be_53 : decode cX8_be 53 = .ok (.putfield 54, 3) := by decide +kernel
theorem dX8_be_56 : decode cX8_be 56 = .ok (.aload_n 0, 1) := by decide +kernel
theorem dX8_be_57 : decode cX8_be 57 = .ok (.aload_n 1, 1) := by decide +kernel
theorem dX8_be_58 : decode cX8_be 58 = .ok (.getfield 57, 3) := by decide +kernel
theorem dX8_be_61 : decode cX8_be 61 = .ok (.putfield 57, 3) := by decide +kernel
theorem dX8_be_64 : decode cX8_be 64 = .ok (.aload_n 0, 1) := by decide +kernel
theorem dX8_be_65 : decode cX8_be 65 = .ok (.aload_n 1, 1) := by decide +kernel
theorem dX8_be_66 : decode cX8_be 66 = .ok (.getfield 7, 3) := by decide +kernel
theorem dX8_be_69 : decode cX8_be 69 = .ok (.putfield 7, 3) := by decide +kernel
theorem dX8_be_72 : decode cX8_be 72 = .ok (.aload_n 1, 1) := by decide +kernel
theorem dX8_be_73 : decode cX8_be 73 = .ok (.getfield 13, 3) := by decide +kernel
theorem dX8_be_76 : decode cX8_be 76 = .ok (.iconst 0, 1) := by decide +kernel
theorem dX8_be_77 : decode cX8_be 77 = .ok (.aload_n 0, 1) := by decide +kernel
theorem dX8_be_78 : decode cX8_be 78 = .ok (.getfield 13, 3) := by decide +kernel
theorem dX8_be_81 : decode cX8_be 81 = .ok (.iconst 0, 1) := by decide +kernel
theorem dX8_be_82 : decode cX8_be 82 = .ok (.bipush 8, 2) := by decide +kernel
theorem dX8_be_84 : decode cX8_be 84 = .ok (.invokestatic 60, 3) := by decide +kernel
theorem dX8_be_87 : decode cX8_be 87 = .ok (.aload_n 1, 1) := by decide +kernel
theorem dX8_be_88 : decode cX8_be 88 = .ok (.getfield 17, 3) := by decide +kernel
theorem dX8_be_91 : decode cX8_be 91 = .ok (.iconst 0, 1) := by decide +kernel
theorem dX8_be_92 : decode cX8_be 92 = .ok (.aload_n 0, 1) := by decide +kernel
theorem dX8_be_93 : decode cX8_be 93 = .ok (.getfield 17, 3) := by decide +kernel
theorem dX8_be_96 : decode cX8_be 96 = .ok (.iconst 0, 1) := by decide +kernel
theorem dX8_be_97 : decode cX8_be 97 = .ok (.bipush 8, 2) := by decide +kernel
theorem dX8_be_99 : decode cX8_be 99 = .ok (.invokestatic 60, 3) := by decide +kernel
theorem dX8_be_102 : decode cX8_be 102 = .ok (.aload_n 1, 1) := by decide +kernel
theorem dX8_be_103 : decode cX8_be 103 = .ok (.getfield 20, 3) := by decide +kernel
theorem dX8_be_106 : decode cX8_be 106 = .ok (.iconst 0, 1) := by decide +kernel
theorem dX8_be_107 : decode cX8_be 107 = .ok (.aload_n 0, 1) := by decide +kernel
theorem dX8_be_108 : decode cX8_be 108 = .ok (.getfield 20, 3) := by decide +kernel
theorem dX8_be_111 : decode cX8_be 111 = .ok (.iconst 0, 1) := by decide +kernel
theorem dX8_be_112 : decode cX8_be 112 = .ok (.iconst 4, 1) := by decide +kernel
theorem dX8_be_113 : decode cX8_be 113 = .ok (.invokestatic 60, 3) := by decide +kernel
theorem dX8_be_116 : decode cX8_be 116 = .ok (.aload_n 1, 1) := by decide +kernel
theorem dX8_be_117 : decode cX8_be 117 = .ok (.getfield 23, 3) := by decide +kernel
theorem dX8_be_120 : decode cX8_be 120 = .ok (.iconst 0, 1) := by decide +kernel
theorem dX8_be_121 : decode cX8_be 121 = .ok (.aload_n 0, 1) := by decide +kernel
theorem dX8_be_122 : decode cX8_be 122 = .ok (.getfield 23, 3) := by decide +kernel
theorem dX8_be_125 : decode cX8_be 125 = .ok (.iconst 0, 1) := by decide +kernel
theorem dX8_be_126 : decode cX8_be 126 = .ok (.iconst 4, 1) := by decide +kernel
theorem dX8_be_127 : decode cX8_be 127 = .ok (.invokestatic 60, 3) := by decide +kernel
theorem dX8_be_130 : decode cX8_be 130 = .ok (.iconst 0, 1) := by decide +kernel
theorem dX8_be_131 : decode cX8_be 131 = .ok (.istore_n 2, 1) := by decide +kernel
theorem dX8_be_132 : decode cX8_be 132 = .ok (.iload_n 2, 1) := by decide +kernel
theorem dX8_be_133 : decode cX8_be 133 = .ok (.iconst 4, 1) := by decide +kernel
theorem dX8_be_134 : decode cX8_be 134 = .ok (.if_icmp .ge 24, 3) := by decide +kernel
theorem dX8_be_137 : decode cX8_be 137 = .ok (.aload_n 0, 1) := by decide +kernel
theorem dX8_be_138 : decode cX8_be 138 = .ok (.getfield 32, 3) := by decide +kernel
theorem dX8_be_141 : decode cX8_be 141 = .ok (.iload_n 2, 1) := by decide +kernel
theorem dX8_be_142 : decode cX8_be 142 = .ok (.aaload, 1) := by decide +kernel
theorem dX8_be_143 : decode cX8_be 143 = .ok (.aload_n 1, 1) := by decide +kernel
theorem dX8_be_144 : decode cX8_be 144 = .ok (.getfield 32, 3) := by decide +kernel
theorem dX8_be_147 : decode cX8_be 147 = .ok (.iload_n 2, 1) := by decide +kernel
theorem dX8_be_148 : decode cX8_be 148 = .ok (.aaload, 1) := by decide +kernel
theorem dX8_be_149 : decode cX8_be 149 = .ok (.invokevirtual 66, 3) := by decide +kernel
theorem dX8_be_152 : decode cX8_be 152 = .ok (.iinc 2 1, 3) := by decide +kernel
theorem dX8_be_155 : decode cX8_be 155 = .ok (.goto (-23), 3) := by decide +kernel
theorem dX8_be_158 : decode cX8_be 158 = .ok (.aload_n 0, 1) := by decide +kernel
theorem dX8_be_159 : decode cX8_be 159 = .ok (.areturn, 1) := by decide +kernel
theorem dX8_rateAt_0 : decode cX8_rateAt 0 = .ok (.aload_n 0, 1) := by decide +kernel
theorem dX8_rateAt_1 : decode cX8_rateAt 1 = .ok (.getfield 7, 3) := by decide +kernel
theorem dX8_rateAt_4 : decode cX8_rateAt 4 = .ok (.ifCond .lt 8, 3) := by decide +kernel
theorem dX8_rateAt_7 : decode cX8_rateAt 7 = .ok (.aload_n 0, 1) := by decide +kernel
theorem dX8_rateAt_8 : decode cX8_rateAt 8 = .ok (.getfield 7, 3) := by decide +kernel
theorem dX8_rateAt_11 : decode cX8_rateAt 11 = .ok (.ireturn, 1) := by decide +kernel
theorem dX8_rateAt_12 : decode cX8_rateAt 12 = .ok (.iload_n 1, 1) := by decide +kernel
theorem dX8_rateAt_13 : decode cX8_rateAt 13 = .ok (.istore_n 2, 1) := by decide +kernel
theorem dX8_rateAt_14 : decode cX8_rateAt 14 = .ok (.iconst 0, 1) := by decide +kernel
theorem dX8_rateAt_15 : decode cX8_rateAt 15 = .ok (.istore_n 3, 1) := by decide +kernel
theorem dX8_rateAt_16 : decode cX8_rateAt 16 = .ok (.iconst 0, 1) := by decide +kernel
theorem dX8_rateAt_17 : decode cX8_rateAt 17 = .ok (.istore 4, 2) := by decide +kernel
theorem dX8_rateAt_19 : decode cX8_rateAt 19 = .ok (.iload 4, 2) := by decide +kernel
theorem dX8_rateAt_21 : decode cX8_rateAt 21 = .ok (.aload_n 0, 1) := by decide +kernel
theorem dX8_rateAt_22 : decode cX8_rateAt 22 = .ok (.getfield 51, 3) := by decide +kernel
theorem dX8_rateAt_25 : decode cX8_rateAt 25 = .ok (.if_icmp .ge 19, 3) := by decide +kernel
theorem dX8_rateAt_28 : decode cX8_rateAt 28 = .ok (.iload_n 3, 1) := by decide +kernel
theorem dX8_rateAt_29 : decode cX8_rateAt 29 = .ok (.aload_n 0, 1) := by decide +kernel
theorem dX8_rateAt_30 : decode cX8_rateAt 30 = .ok (.getfield 13, 3) := by decide +kernel
theorem dX8_rateAt_33 : decode cX8_rateAt 33 = .ok (.iload 4, 2) := by decide +kernel
theorem dX8_rateAt_35 : decode cX8_rateAt 35 = .ok (.iaload, 1) := by decide +kernel
theorem dX8_rateAt_36 : decode cX8_rateAt 36 = .ok (.iadd, 1) := by decide +kernel
theorem dX8_rateAt_37 : decode cX8_rateAt 37 = .ok (.istore_n 3, 1) := by decide +kernel
theorem dX8_rateAt_38 : decode cX8_rateAt 38 = .ok (.iinc 4 1, 3) := by decide +kernel
theorem dX8_rateAt_41 : decode cX8_rateAt 41 = .ok (.goto (-22), 3) := by decide +kernel
theorem dX8_rateAt_44 : decode cX8_rateAt 44 = .ok (.iload_n 3, 1) := by decide +kernel
theorem dX8_rateAt_45 : decode cX8_rateAt 45 = .ok (.ifCond .ne 6, 3) := by decide +kernel
theorem dX8_rateAt_48 : decode cX8_rateAt 48 = .ok (.bipush 100, 2) := by decide +kernel
theorem dX8_rateAt_50 : decode cX8_rateAt 50 = .ok (.ireturn, 1) := by decide +kernel
theorem dX8_rateAt_51 : decode cX8_rateAt 51 = .ok (.iload_n 2, 1) := by decide +kernel
theorem dX8_rateAt_52 : decode cX8_rateAt 52 = .ok (.iload_n 3, 1) := by decide +kernel
theorem dX8_rateAt_53 : decode cX8_rateAt 53 = .ok (.irem, 1) := by decide +kernel
theorem dX8_rateAt_54 : decode cX8_rateAt 54 = .ok (.istore_n 2, 1) := by decide +kernel
theorem dX8_rateAt_55 : decode cX8_rateAt 55 = .ok (.iconst 0, 1) := by decide +kernel
theorem dX8_rateAt_56 : decode cX8_rateAt 56 = .ok (.istore 4, 2) := by decide +kernel
theorem dX8_rateAt_58 : decode cX8_rateAt 58 = .ok (.iload 4, 2) := by decide +kernel
theorem dX8_rateAt_60 : decode cX8_rateAt 60 = .ok (.aload_n 0, 1) := by decide +kernel
theorem dX8_rateAt_61 : decode cX8_rateAt 61 = .ok (.getfield 51, 3) := by decide +kernel
theorem dX8_rateAt_64 : decode cX8_rateAt 64 = .ok (.if_icmp .ge 38, 3) := by decide +kernel
theorem dX8_rateAt_67 : decode cX8_rateAt 67 = .ok (.iload_n 2, 1) := by decide +kernel
theorem dX8_rateAt_68 : decode cX8_rateAt 68 = .ok (.aload_n 0, 1) := by decide +kernel
theorem dX8_rateAt_69 : decode cX8_rateAt 69 = .ok (.getfield 13, 3) := by decide +kernel
theorem dX8_rateAt_72 : decode cX8_rateAt 72 = .ok (.iload 4, 2) := by decide +kernel
theorem dX8_rateAt_74 : decode cX8_rateAt 74 = .ok (.iaload, 1) := by decide +kernel
theorem dX8_rateAt_75 : decode cX8_rateAt 75 = .ok (.if_icmp .ge 11, 3) := by decide +kernel
theorem dX8_rateAt_78 : decode cX8_rateAt 78 = .ok (.aload_n 0, 1) := by decide +kernel
theorem dX8_rateAt_79 : decode cX8_rateAt 79 = .ok (.getfield 17, 3) := by decide +kernel
theorem dX8_rateAt_82 : decode cX8_rateAt 82 = .ok (.iload 4, 2) := by decide +kernel
theorem dX8_rateAt_84 : decode cX8_rateAt 84 = .ok (.iaload, 1) := by decide +kernel
theorem dX8_rateAt_85 : decode cX8_rateAt 85 = .ok (.ireturn, 1) := by decide +kernel
theorem dX8_rateAt_86 : decode cX8_rateAt 86 = .ok (.iload_n 2, 1) := by decide +kernel
theorem dX8_rateAt_87 : decode cX8_rateAt 87 = .ok (.aload_n 0, 1) := by decide +kernel
theorem dX8_rateAt_88 : decode cX8_rateAt 88 = .ok (.getfield 13, 3) := by decide +kernel
theorem dX8_rateAt_91 : decode cX8_rateAt 91 = .ok (.iload 4, 2) := by decide +kernel
theorem dX8_rateAt_93 : decode cX8_rateAt 93 = .ok (.iaload, 1) := by decide +kernel
theorem dX8_rateAt_94 : decode cX8_rateAt 94 = .ok (.isub, 1) := by decide +kernel
theorem dX8_rateAt_95 : decode cX8_rateAt 95 = .ok (.istore_n 2, 1) := by decide +kernel
theorem dX8_rateAt_96 : decode cX8_rateAt 96 = .ok (.iinc 4 1, 3) := by decide +kernel
theorem dX8_rateAt_99 : decode cX8_rateAt 99 = .ok (.goto (-41), 3) := by decide +kernel
theorem dX8_rateAt_102 : decode cX8_rateAt 102 = .ok (.bipush (-9), 2) := by decide +kernel
theorem dX8_rateAt_104 : decode cX8_rateAt 104 = .ok (.ireturn, 1) := by decide +kernel
theorem dX8_sizeOf_0 : decode cX8_sizeOf 0 = .ok (.iconst 1, 1) := by decide +kernel
theorem dX8_sizeOf_1 : decode cX8_sizeOf 1 = .ok (.aload_n 1, 1) := by decide +kernel
theorem dX8_sizeOf_2 : decode cX8_sizeOf 2 = .ok (.getfield 70, 3) := by decide +kernel
theorem dX8_sizeOf_5 : decode cX8_sizeOf 5 = .ok (.iload_n 3, 1) := by decide +kernel
theorem dX8_sizeOf_6 : decode cX8_sizeOf 6 = .ok (.iaload, 1) := by decide +kernel
theorem dX8_sizeOf_7 : decode cX8_sizeOf 7 = .ok (.aload_n 0, 1) := by decide +kernel
theorem dX8_sizeOf_8 : decode cX8_sizeOf 8 = .ok (.getfield 54, 3) := by decide +kernel
theorem dX8_sizeOf_11 : decode cX8_sizeOf 11 = .ok (.ifCond .ne 8, 3) := by decide +kernel
theorem dX8_sizeOf_14 : decode cX8_sizeOf 14 = .ok (.bipush 100, 2) := by decide +kernel
theorem dX8_sizeOf_16 : decode cX8_sizeOf 16 = .ok (.goto 14, 3) := by decide +kernel
theorem dX8_sizeOf_19 : decode cX8_sizeOf 19 = .ok (.aload_n 0, 1) := by decide +kernel
theorem dX8_sizeOf_20 : decode cX8_sizeOf 20 = .ok (.getfield 20, 3) := by decide +kernel
theorem dX8_sizeOf_23 : decode cX8_sizeOf 23 = .ok (.iload_n 2, 1) := by decide +kernel
theorem dX8_sizeOf_24 : decode cX8_sizeOf 24 = .ok (.aload_n 0, 1) := by decide +kernel
theorem dX8_sizeOf_25 : decode cX8_sizeOf 25 = .ok (.getfield 54, 3) := by decide +kernel
theorem dX8_sizeOf_28 : decode cX8_sizeOf 28 = .ok (.irem, 1) := by decide +kernel
theorem dX8_sizeOf_29 : decode cX8_sizeOf 29 = .ok (.iaload, 1) := by decide +kernel
theorem dX8_sizeOf_30 : decode cX8_sizeOf 30 = .ok (.imul, 1) := by decide +kernel
theorem dX8_sizeOf_31 : decode cX8_sizeOf 31 = .ok (.bipush 100, 2) := by decide +kernel
theorem dX8_sizeOf_33 : decode cX8_sizeOf 33 = .ok (.idiv, 1) := by decide +kernel
theorem dX8_sizeOf_34 : decode cX8_sizeOf 34 = .ok (.invokestatic 73, 3) := by decide +kernel
theorem dX8_sizeOf_37 : decode cX8_sizeOf 37 = .ok (.ireturn, 1) := by decide +kernel
theorem dX8_chooses_0 : decode cX8_chooses 0 = .ok (.aload_n 1, 1) := by decide +kernel
theorem dX8_chooses_1 : decode cX8_chooses 1 = .ok (.getfield 79, 3) := by decide +kernel
theorem dX8_chooses_4 : decode cX8_chooses 4 = .ok (.iconst 1, 1) := by decide +kernel
theorem dX8_chooses_5 : decode cX8_chooses 5 = .ok (.isub, 1) := by decide +kernel
theorem dX8_chooses_6 : decode cX8_chooses 6 = .ok (.aload_n 1, 1) := by decide +kernel
theorem dX8_chooses_7 : decode cX8_chooses 7 = .ok (.getfield 82, 3) := by decide +kernel
theorem dX8_chooses_10 : decode cX8_chooses 10 = .ok (.aload_n 1, 1) := by decide +kernel
theorem dX8_chooses_11 : decode cX8_chooses 11 = .ok (.getfield 79, 3) := by decide +kernel
theorem dX8_chooses_14 : decode cX8_chooses 14 = .ok (.imul, 1) := by decide +kernel
theorem dX8_chooses_15 : decode cX8_chooses 15 = .ok (.aload_n 0, 1) := by decide +kernel
theorem dX8_chooses_16 : decode cX8_chooses 16 = .ok (.getfield 42, 3) := by decide +kernel
theorem dX8_chooses_19 : decode cX8_chooses 19 = .ok (.idiv, 1) := by decide +kernel
theorem dX8_chooses_20 : decode cX8_chooses 20 = .ok (.invokestatic 85, 3) := by decide +kernel
theorem dX8_chooses_23 : decode cX8_chooses 23 = .ok (.istore_n 2, 1) := by decide +kernel
theorem dX8_chooses_24 : decode cX8_chooses 24 = .ok (.aload_n 1, 1) := by decide +kernel
theorem dX8_chooses_25 : decode cX8_chooses 25 = .ok (.getfield 79, 3) := by decide +kernel
theorem dX8_chooses_28 : decode cX8_chooses 28 = .ok (.iconst 1, 1) := by decide +kernel
theorem dX8_chooses_29 : decode cX8_chooses 29 = .ok (.isub, 1) := by decide +kernel
theorem dX8_chooses_30 : decode cX8_chooses 30 = .ok (.istore_n 3, 1) := by decide +kernel
theorem dX8_chooses_31 : decode cX8_chooses 31 = .ok (.iload_n 3, 1) := by decide +kernel
theorem dX8_chooses_32 : decode cX8_chooses 32 = .ok (.ifCond .le 39, 3) := by decide +kernel
theorem dX8_chooses_35 : decode cX8_chooses 35 = .ok (.aload_n 0, 1) := by decide +kernel
theorem dX8_chooses_36 : decode cX8_chooses 36 = .ok (.aload_n 1, 1) := by decide +kernel
theorem dX8_chooses_37 : decode cX8_chooses 37 = .ok (.aload_n 1, 1) := by decide +kernel
theorem dX8_chooses_38 : decode cX8_chooses 38 = .ok (.invokevirtual 88, 3) := by decide +kernel
theorem dX8_chooses_41 : decode cX8_chooses 41 = .ok (.iload_n 3, 1) := by decide +kernel
theorem dX8_chooses_42 : decode cX8_chooses 42 = .ok (.invokevirtual 92, 3) := by decide +kernel
theorem dX8_chooses_45 : decode cX8_chooses 45 = .ok (.bipush 100, 2) := by decide +kernel
theorem dX8_chooses_47 : decode cX8_chooses 47 = .ok (.imul, 1) := by decide +kernel
theorem dX8_chooses_48 : decode cX8_chooses 48 = .ok (.aload_n 1, 1) := by decide +kernel
theorem dX8_chooses_49 : decode cX8_chooses 49 = .ok (.getfield 96, 3) := by decide +kernel
theorem dX8_chooses_52 : decode cX8_chooses 52 = .ok (.aload_n 0, 1) := by decide +kernel
theorem dX8_chooses_53 : decode cX8_chooses 53 = .ok (.getfield 36, 3) := by decide +kernel
theorem dX8_chooses_56 : decode cX8_chooses 56 = .ok (.imul, 1) := by decide +kernel
theorem dX8_chooses_57 : decode cX8_chooses 57 = .ok (.aload_n 0, 1) := by decide +kernel
theorem dX8_chooses_58 : decode cX8_chooses 58 = .ok (.getfield 45, 3) := by decide +kernel
theorem dX8_chooses_61 : decode cX8_chooses 61 = .ok (.imul, 1) := by decide +kernel
theorem dX8_chooses_62 : decode cX8_chooses 62 = .ok (.if_icmp .le 9, 3) := by decide +kernel
theorem dX8_chooses_65 : decode cX8_chooses 65 = .ok (.iinc 3 (-1), 3) := by decide +kernel
theorem dX8_chooses_68 : decode cX8_chooses 68 = .ok (.goto (-37), 3) := by decide +kernel
theorem dX8_chooses_71 : decode cX8_chooses 71 = .ok (.aload_n 1, 1) := by decide +kernel
theorem dX8_chooses_72 : decode cX8_chooses 72 = .ok (.getfield 99, 3) := by decide +kernel
theorem dX8_chooses_75 : decode cX8_chooses 75 = .ok (.ifCond .ne 7, 3) := by decide +kernel
theorem dX8_chooses_78 : decode cX8_chooses 78 = .ok (.iconst 0, 1) := by decide +kernel
theorem dX8_chooses_79 : decode cX8_chooses 79 = .ok (.goto 32, 3) := by decide +kernel
theorem dX8_chooses_82 : decode cX8_chooses 82 = .ok (.aload_n 1, 1) := by decide +kernel
theorem dX8_chooses_83 : decode cX8_chooses 83 = .ok (.getfield 99, 3) := by decide +kernel
theorem dX8_chooses_86 : decode cX8_chooses 86 = .ok (.iconst 1, 1) := by decide +kernel
theorem dX8_chooses_87 : decode cX8_chooses 87 = .ok (.if_icmp .ne 7, 3) := by decide +kernel
theorem dX8_chooses_90 : decode cX8_chooses 90 = .ok (.iload_n 2, 1) := by decide +kernel
theorem dX8_chooses_91 : decode cX8_chooses 91 = .ok (.goto 20, 3) := by decide +kernel
theorem dX8_chooses_94 : decode cX8_chooses 94 = .ok (.aload_n 1, 1) := by decide +kernel
theorem dX8_chooses_95 : decode cX8_chooses 95 = .ok (.getfield 99, 3) := by decide +kernel
theorem dX8_chooses_98 : decode cX8_chooses 98 = .ok (.iconst 2, 1) := by decide +kernel
theorem dX8_chooses_99 : decode cX8_chooses 99 = .ok (.if_icmp .ne 7, 3) := by decide +kernel
theorem dX8_chooses_102 : decode cX8_chooses 102 = .ok (.iload_n 3, 1) := by decide +kernel
theorem dX8_chooses_103 : decode cX8_chooses 103 = .ok (.goto 8, 3) := by decide +kernel
theorem dX8_chooses_106 : decode cX8_chooses 106 = .ok (.iload_n 2, 1) := by decide +kernel
theorem dX8_chooses_107 : decode cX8_chooses 107 = .ok (.iload_n 3, 1) := by decide +kernel
theorem dX8_chooses_108 : decode cX8_chooses 108 = .ok (.invokestatic 85, 3) := by decide +kernel
theorem dX8_chooses_111 : decode cX8_chooses 111 = .ok (.ireturn, 1) := by decide +kernel
theorem dX8_tick_0 : decode cX8_tick 0 = .ok (.iconst 0, 1) := by decide +kernel
theorem dX8_tick_1 : decode cX8_tick 1 = .ok (.istore_n 1, 1) := by decide +kernel
theorem dX8_tick_2 : decode cX8_tick 2 = .ok (.iload_n 1, 1) := by decide +kernel
theorem dX8_tick_3 : decode cX8_tick 3 = .ok (.aload_n 0, 1) := by decide +kernel
theorem dX8_tick_4 : decode cX8_tick 4 = .ok (.getfield 48, 3) := by decide +kernel
theorem dX8_tick_7 : decode cX8_tick 7 = .ok (.if_icmp .ge 132, 3) := by decide +kernel
theorem dX8_tick_10 : decode cX8_tick 10 = .ok (.aload_n 0, 1) := by decide +kernel
theorem dX8_tick_11 : decode cX8_tick 11 = .ok (.getfield 32, 3) := by decide +kernel
theorem dX8_tick_14 : decode cX8_tick 14 = .ok (.iload_n 1, 1) := by decide +kernel
theorem dX8_tick_15 : decode cX8_tick 15 = .ok (.aaload, 1) := by decide +kernel
theorem dX8_tick_16 : decode cX8_tick 16 = .ok (.astore_n 2, 1) := by decide +kernel
theorem dX8_tick_17 : decode cX8_tick 17 = .ok (.aload_n 2, 1) := by decide +kernel
theorem dX8_tick_18 : decode cX8_tick 18 = .ok (.getfield 102, 3) := by decide +kernel
theorem dX8_tick_21 : decode cX8_tick 21 = .ok (.iconst 2, 1) := by decide +kernel
theorem dX8_tick_22 : decode cX8_tick 22 = .ok (.if_icmp .gt 111, 3) := by decide +kernel
theorem dX8_tick_25 : decode cX8_tick 25 = .ok (.aload_n 0, 1) := by decide +kernel
theorem dX8_tick_26 : decode cX8_tick 26 = .ok (.getfield 57, 3) := by decide +kernel
theorem dX8_tick_29 : decode cX8_tick 29 = .ok (.aload_n 2, 1) := by decide +kernel
theorem dX8_tick_30 : decode cX8_tick 30 = .ok (.getfield 105, 3) := by decide +kernel
theorem dX8_tick_33 : decode cX8_tick 33 = .ok (.if_icmp .lt 100, 3) := by decide +kernel
theorem dX8_tick_36 : decode cX8_tick 36 = .ok (.aload_n 2, 1) := by decide +kernel
theorem dX8_tick_37 : decode cX8_tick 37 = .ok (.getfield 108, 3) := by decide +kernel
theorem dX8_tick_40 : decode cX8_tick 40 = .ok (.ifCond .ge 93, 3) := by decide +kernel
theorem dX8_tick_43 : decode cX8_tick 43 = .ok (.aload_n 2, 1) := by decide +kernel
theorem dX8_tick_44 : decode cX8_tick 44 = .ok (.invokevirtual 111, 3) := by decide +kernel
theorem dX8_tick_47 : decode cX8_tick 47 = .ok (.ifCond .ne 86, 3) := by decide +kernel
theorem dX8_tick_50 : decode cX8_tick 50 = .ok (.aload_n 2, 1) := by decide +kernel
theorem dX8_tick_51 : decode cX8_tick 51 = .ok (.getfield 82, 3) := by decide +kernel
theorem dX8_tick_54 : decode cX8_tick 54 = .ok (.ifCond .le 22, 3) := by decide +kernel
theorem dX8_tick_57 : decode cX8_tick 57 = .ok (.aload_n 2, 1) := by decide +kernel
theorem dX8_tick_58 : decode cX8_tick 58 = .ok (.getfield 82, 3) := by decide +kernel
theorem dX8_tick_61 : decode cX8_tick 61 = .ok (.aload_n 0, 1) := by decide +kernel
theorem dX8_tick_62 : decode cX8_tick 62 = .ok (.getfield 36, 3) := by decide +kernel
theorem dX8_tick_65 : decode cX8_tick 65 = .ok (.iadd, 1) := by decide +kernel
theorem dX8_tick_66 : decode cX8_tick 66 = .ok (.aload_n 0, 1) := by decide +kernel
theorem dX8_tick_67 : decode cX8_tick 67 = .ok (.getfield 42, 3) := by decide +kernel
theorem dX8_tick_70 : decode cX8_tick 70 = .ok (.if_icmp .le 6, 3) := by decide +kernel
theorem dX8_tick_73 : decode cX8_tick 73 = .ok (.goto 60, 3) := by decide +kernel
theorem dX8_tick_76 : decode cX8_tick 76 = .ok (.aload_n 2, 1) := by decide +kernel
theorem dX8_tick_77 : decode cX8_tick 77 = .ok (.getfield 115, 3) := by decide +kernel
theorem dX8_tick_80 : decode cX8_tick 80 = .ok (.aload_n 2, 1) := by decide +kernel
theorem dX8_tick_81 : decode cX8_tick 81 = .ok (.getfield 118, 3) := by decide +kernel
theorem dX8_tick_84 : decode cX8_tick 84 = .ok (.iaload, 1) := by decide +kernel
theorem dX8_tick_85 : decode cX8_tick 85 = .ok (.ifCond .lt 15, 3) := by decide +kernel
theorem dX8_tick_88 : decode cX8_tick 88 = .ok (.aload_n 2, 1) := by decide +kernel
theorem dX8_tick_89 : decode cX8_tick 89 = .ok (.getfield 115, 3) := by decide +kernel
theorem dX8_tick_92 : decode cX8_tick 92 = .ok (.aload_n 2, 1) := by decide +kernel
theorem dX8_tick_93 : decode cX8_tick 93 = .ok (.getfield 118, 3) := by decide +kernel
theorem dX8_tick_96 : decode cX8_tick 96 = .ok (.iaload, 1) := by decide +kernel
theorem dX8_tick_97 : decode cX8_tick 97 = .ok (.goto 8, 3) := by decide +kernel
theorem dX8_tick_100 : decode cX8_tick 100 = .ok (.aload_n 0, 1) := by decide +kernel
theorem dX8_tick_101 : decode cX8_tick 101 = .ok (.aload_n 2, 1) := by decide +kernel
theorem dX8_tick_102 : decode cX8_tick 102 = .ok (.invokevirtual 121, 3) := by decide +kernel
theorem dX8_tick_105 : decode cX8_tick 105 = .ok (.istore_n 3, 1) := by decide +kernel
theorem dX8_tick_106 : decode cX8_tick 106 = .ok (.aload_n 2, 1) := by decide +kernel
theorem dX8_tick_107 : decode cX8_tick 107 = .ok (.iload_n 3, 1) := by decide +kernel
theorem dX8_tick_108 : decode cX8_tick 108 = .ok (.putfield 108, 3) := by decide +kernel
theorem dX8_tick_111 : decode cX8_tick 111 = .ok (.aload_n 2, 1) := by decide +kernel
theorem dX8_tick_112 : decode cX8_tick 112 = .ok (.aload_n 0, 1) := by decide +kernel
theorem dX8_tick_113 : decode cX8_tick 113 = .ok (.aload_n 2, 1) := by decide +kernel
theorem dX8_tick_114 : decode cX8_tick 114 = .ok (.aload_n 2, 1) := by decide +kernel
theorem dX8_tick_115 : decode cX8_tick 115 = .ok (.getfield 118, 3) := by decide +kernel
theorem dX8_tick_118 : decode cX8_tick 118 = .ok (.iload_n 3, 1) := by decide +kernel
theorem dX8_tick_119 : decode cX8_tick 119 = .ok (.invokevirtual 92, 3) := by decide +kernel
theorem dX8_tick_122 : decode cX8_tick 122 = .ok (.putfield 125, 3) := by decide +kernel
theorem dX8_tick_125 : decode cX8_tick 125 = .ok (.aload_n 2, 1) := by decide +kernel
theorem dX8_tick_126 : decode cX8_tick 126 = .ok (.aload_n 0, 1) := by decide +kernel
theorem dX8_tick_127 : decode cX8_tick 127 = .ok (.getfield 57, 3) := by decide +kernel
theorem dX8_tick_130 : decode cX8_tick 130 = .ok (.putfield 128, 3) := by decide +kernel
theorem dX8_tick_133 : decode cX8_tick 133 = .ok (.iinc 1 1, 3) := by decide +kernel
theorem dX8_tick_136 : decode cX8_tick 136 = .ok (.goto (-134), 3) := by decide +kernel
theorem dX8_tick_139 : decode cX8_tick 139 = .ok (.aload_n 0, 1) := by decide +kernel
theorem dX8_tick_140 : decode cX8_tick 140 = .ok (.aload_n 0, 1) := by decide +kernel
theorem dX8_tick_141 : decode cX8_tick 141 = .ok (.getfield 57, 3) := by decide +kernel
theorem dX8_tick_144 : decode cX8_tick 144 = .ok (.invokevirtual 131, 3) := by decide +kernel
theorem dX8_tick_147 : decode cX8_tick 147 = .ok (.istore_n 1, 1) := by decide +kernel
theorem dX8_tick_148 : decode cX8_tick 148 = .ok (.iconst 1, 1) := by decide +kernel
theorem dX8_tick_149 : decode cX8_tick 149 = .ok (.istore_n 2, 1) := by decide +kernel
theorem dX8_tick_150 : decode cX8_tick 150 = .ok (.iload_n 1, 1) := by decide +kernel
theorem dX8_tick_151 : decode cX8_tick 151 = .ok (.ifCond .le 287, 3) := by decide +kernel
theorem dX8_tick_154 : decode cX8_tick 154 = .ok (.iload_n 2, 1) := by decide +kernel
theorem dX8_tick_155 : decode cX8_tick 155 = .ok (.ifCond .eq 283, 3) := by decide +kernel
theorem dX8_tick_158 : decode cX8_tick 158 = .ok (.iconst 0, 1) := by decide +kernel
theorem dX8_tick_159 : decode cX8_tick 159 = .ok (.istore_n 3, 1) := by decide +kernel
theorem dX8_tick_160 : decode cX8_tick 160 = .ok (.iload_n 1, 1) := by decide +kernel
theorem dX8_tick_161 : decode cX8_tick 161 = .ok (.istore 4, 2) := by decide +kernel
theorem dX8_tick_163 : decode cX8_tick 163 = .ok (.iconst 0, 1) := by decide +kernel
theorem dX8_tick_164 : decode cX8_tick 164 = .ok (.istore 5, 2) := by decide +kernel
theorem dX8_tick_166 : decode cX8_tick 166 = .ok (.iload 5, 2) := by decide +kernel
theorem dX8_tick_168 : decode cX8_tick 168 = .ok (.aload_n 0, 1) := by decide +kernel
theorem dX8_tick_169 : decode cX8_tick 169 = .ok (.getfield 48, 3) := by decide +kernel
theorem dX8_tick_172 : decode cX8_tick 172 = .ok (.if_icmp .ge 31, 3) := by decide +kernel
theorem dX8_tick_175 : decode cX8_tick 175 = .ok (.aload_n 0, 1) := by decide +kernel
theorem dX8_tick_176 : decode cX8_tick 176 = .ok (.iload 5, 2) := by decide +kernel
theorem dX8_tick_178 : decode cX8_tick 178 = .ok (.invokevirtual 135, 3) := by decide +kernel
theorem dX8_tick_181 : decode cX8_tick 181 = .ok (.ifCond .eq 16, 3) := by decide +kernel
theorem dX8_tick_184 : decode cX8_tick 184 = .ok (.iload_n 3, 1) := by decide +kernel
theorem dX8_tick_185 : decode cX8_tick 185 = .ok (.aload_n 0, 1) := by decide +kernel
theorem dX8_tick_186 : decode cX8_tick 186 = .ok (.getfield 32, 3) := by decide +kernel
theorem dX8_tick_189 : decode cX8_tick 189 = .ok (.iload 5, 2) := by decide +kernel
theorem dX8_tick_191 : decode cX8_tick 191 = .ok (.aaload, 1) := by decide +kernel
theorem dX8_tick_192 : decode cX8_tick 192 = .ok (.getfield 139, 3) := by decide +kernel
theorem dX8_tick_195 : decode cX8_tick 195 = .ok (.iadd, 1) := by decide +kernel
theorem dX8_tick_196 : decode cX8_tick 196 = .ok (.istore_n 3, 1) := by decide +kernel
theorem dX8_tick_197 : decode cX8_tick 197 = .ok (.iinc 5 1, 3) := by decide +kernel
theorem dX8_tick_200 : decode cX8_tick 200 = .ok (.goto (-34), 3) := by decide +kernel
theorem dX8_tick_203 : decode cX8_tick 203 = .ok (.iload_n 3, 1) := by decide +kernel
theorem dX8_tick_204 : decode cX8_tick 204 = .ok (.ifCond .le 7, 3) := by decide +kernel
theorem dX8_tick_207 : decode cX8_tick 207 = .ok (.iconst 1, 1) := by decide +kernel
theorem dX8_tick_208 : decode cX8_tick 208 = .ok (.goto 4, 3) := by decide +kernel
theorem dX8_tick_211 : decode cX8_tick 211 = .ok (.iconst 0, 1) := by decide +kernel
theorem dX8_tick_212 : decode cX8_tick 212 = .ok (.istore_n 2, 1) := by decide +kernel
theorem dX8_tick_213 : decode cX8_tick 213 = .ok (.iconst 0, 1) := by decide +kernel
theorem dX8_tick_214 : decode cX8_tick 214 = .ok (.istore 5, 2) := by decide +kernel
theorem dX8_tick_216 : decode cX8_tick 216 = .ok (.iconst 0, 1) := by decide +kernel
theorem dX8_tick_217 : decode cX8_tick 217 = .ok (.istore 6, 2) := by decide +kernel
theorem dX8_tick_219 : decode cX8_tick 219 = .ok (.iload 6, 2) := by decide +kernel
theorem dX8_tick_221 : decode cX8_tick 221 = .ok (.aload_n 0, 1) := by decide +kernel
theorem dX8_tick_222 : decode cX8_tick 222 = .ok (.getfield 48, 3) := by decide +kernel
theorem dX8_tick_225 : decode cX8_tick 225 = .ok (.if_icmp .ge 69, 3) := by decide +kernel
theorem dX8_tick_228 : decode cX8_tick 228 = .ok (.aload_n 0, 1) := by decide +kernel
theorem dX8_tick_229 : decode cX8_tick 229 = .ok (.getfield 26, 3) := by decide +kernel
theorem dX8_tick_232 : decode cX8_tick 232 = .ok (.iload 6, 2) := by decide +kernel
theorem dX8_tick_234 : decode cX8_tick 234 = .ok (.aload_n 0, 1) := by decide +kernel
theorem dX8_tick_235 : decode cX8_tick 235 = .ok (.iload 6, 2) := by decide +kernel
theorem dX8_tick_237 : decode cX8_tick 237 = .ok (.invokevirtual 135, 3) := by decide +kernel
theorem dX8_tick_240 : decode cX8_tick 240 = .ok (.ifCond .eq 34, 3) := by decide +kernel
theorem dX8_tick_243 : decode cX8_tick 243 = .ok (.aload_n 0, 1) := by decide +kernel
theorem dX8_tick_244 : decode cX8_tick 244 = .ok (.getfield 32, 3) := by decide +kernel
theorem dX8_tick_247 : decode cX8_tick 247 = .ok (.iload 6, 2) := by decide +kernel
theorem dX8_tick_249 : decode cX8_tick 249 = .ok (.aaload, 1) := by decide +kernel
theorem dX8_tick_250 : decode cX8_tick 250 = .ok (.getfield 125, 3) := by decide +kernel
theorem dX8_tick_253 : decode cX8_tick 253 = .ok (.iload 4, 2) := by decide +kernel
theorem dX8_tick_255 : decode cX8_tick 255 = .ok (.aload_n 0, 1) := by decide +kernel
theorem dX8_tick_256 : decode cX8_tick 256 = .ok (.getfield 32, 3) := by decide +kernel
theorem dX8_tick_259 : decode cX8_tick 259 = .ok (.iload 6, 2) := by decide +kernel
theorem dX8_tick_261 : decode cX8_tick 261 = .ok (.aaload, 1) := by decide +kernel
theorem dX8_tick_262 : decode cX8_tick 262 = .ok (.getfield 139, 3) := by decide +kernel
theorem dX8_tick_265 : decode cX8_tick 265 = .ok (.imul, 1) := by decide +kernel
theorem dX8_tick_266 : decode cX8_tick 266 = .ok (.iload_n 3, 1) := by decide +kernel
theorem dX8_tick_267 : decode cX8_tick 267 = .ok (.idiv, 1) := by decide +kernel
theorem dX8_tick_268 : decode cX8_tick 268 = .ok (.invokestatic 85, 3) := by decide +kernel
theorem dX8_tick_271 : decode cX8_tick 271 = .ok (.goto 4, 3) := by decide +kernel
theorem dX8_tick_274 : decode cX8_tick 274 = .ok (.iconst 0, 1) := by decide +kernel
theorem dX8_tick_275 : decode cX8_tick 275 = .ok (.iastore, 1) := by decide +kernel
theorem dX8_tick_276 : decode cX8_tick 276 = .ok (.iload 5, 2) := by decide +kernel
theorem dX8_tick_278 : decode cX8_tick 278 = .ok (.aload_n 0, 1) := by decide +kernel
theorem dX8_tick_279 : decode cX8_tick 279 = .ok (.getfield 26, 3) := by decide +kernel
theorem dX8_tick_282 : decode cX8_tick 282 = .ok (.iload 6, 2) := by decide +kernel
theorem dX8_tick_284 : decode cX8_tick 284 = .ok (.iaload, 1) := by decide +kernel
theorem dX8_tick_285 : decode cX8_tick 285 = .ok (.iadd, 1) := by decide +kernel
theorem dX8_tick_286 : decode cX8_tick 286 = .ok (.istore 5, 2) := by decide +kernel
theorem dX8_tick_288 : decode cX8_tick 288 = .ok (.iinc 6 1, 3) := by decide +kernel
theorem dX8_tick_291 : decode cX8_tick 291 = .ok (.goto (-72), 3) := by decide +kernel
theorem dX8_tick_294 : decode cX8_tick 294 = .ok (.iconst 0, 1) := by decide +kernel
theorem dX8_tick_295 : decode cX8_tick 295 = .ok (.istore 6, 2) := by decide +kernel
theorem dX8_tick_297 : decode cX8_tick 297 = .ok (.iload 6, 2) := by decide +kernel
theorem dX8_tick_299 : decode cX8_tick 299 = .ok (.aload_n 0, 1) := by decide +kernel
theorem dX8_tick_300 : decode cX8_tick 300 = .ok (.getfield 48, 3) := by decide +kernel
theorem dX8_tick_303 : decode cX8_tick 303 = .ok (.if_icmp .ge 44, 3) := by decide +kernel
theorem dX8_tick_306 : decode cX8_tick 306 = .ok (.iload 5, 2) := by decide +kernel
theorem dX8_tick_308 : decode cX8_tick 308 = .ok (.iconst 1, 1) := by decide +kernel
theorem dX8_tick_309 : decode cX8_tick 309 = .ok (.if_icmp .ge 38, 3) := by decide +kernel
theorem dX8_tick_312 : decode cX8_tick 312 = .ok (.iload_n 2, 1) := by decide +kernel
theorem dX8_tick_313 : decode cX8_tick 313 = .ok (.ifCond .eq 34, 3) := by decide +kernel
theorem dX8_tick_316 : decode cX8_tick 316 = .ok (.aload_n 0, 1) := by decide +kernel
theorem dX8_tick_317 : decode cX8_tick 317 = .ok (.iload 6, 2) := by decide +kernel
theorem dX8_tick_319 : decode cX8_tick 319 = .ok (.invokevirtual 135, 3) := by decide +kernel
theorem dX8_tick_322 : decode cX8_tick 322 = .ok (.ifCond .eq 19, 3) := by decide +kernel
theorem dX8_tick_325 : decode cX8_tick 325 = .ok (.aload_n 0, 1) := by decide +kernel
theorem dX8_tick_326 : decode cX8_tick 326 = .ok (.invokevirtual 142, 3) := by decide +kernel
theorem dX8_tick_329 : decode cX8_tick 329 = .ok (.iload_n 1, 1) := by decide +kernel
theorem dX8_tick_330 : decode cX8_tick 330 = .ok (.if_icmp .ge 11, 3) := by decide +kernel
theorem dX8_tick_333 : decode cX8_tick 333 = .ok (.aload_n 0, 1) := by decide +kernel
theorem dX8_tick_334 : decode cX8_tick 334 = .ok (.getfield 26, 3) := by decide +kernel
theorem dX8_tick_337 : decode cX8_tick 337 = .ok (.iload 6, 2) := by decide +kernel
theorem dX8_tick_339 : decode cX8_tick 339 = .ok (.iconst 1, 1) := by decide +kernel
theorem dX8_tick_340 : decode cX8_tick 340 = .ok (.iastore, 1) := by decide +kernel
theorem dX8_tick_341 : decode cX8_tick 341 = .ok (.iinc 6 1, 3) := by decide +kernel
theorem dX8_tick_344 : decode cX8_tick 344 = .ok (.goto (-47), 3) := by decide +kernel
theorem dX8_tick_347 : decode cX8_tick 347 = .ok (.iconst 0, 1) := by decide +kernel
theorem dX8_tick_348 : decode cX8_tick 348 = .ok (.istore 6, 2) := by decide +kernel
theorem dX8_tick_350 : decode cX8_tick 350 = .ok (.iload 6, 2) := by decide +kernel
theorem dX8_tick_352 : decode cX8_tick 352 = .ok (.aload_n 0, 1) := by decide +kernel
theorem dX8_tick_353 : decode cX8_tick 353 = .ok (.getfield 48, 3) := by decide +kernel
theorem dX8_tick_356 : decode cX8_tick 356 = .ok (.if_icmp .ge 79, 3) := by decide +kernel
theorem dX8_tick_359 : decode cX8_tick 359 = .ok (.aload_n 0, 1) := by decide +kernel
theorem dX8_tick_360 : decode cX8_tick 360 = .ok (.getfield 32, 3) := by decide +kernel
theorem dX8_tick_363 : decode cX8_tick 363 = .ok (.iload 6, 2) := by decide +kernel
theorem dX8_tick_365 : decode cX8_tick 365 = .ok (.aaload, 1) := by decide +kernel
theorem dX8_tick_366 : decode cX8_tick 366 = .ok (.dup, 1) := by decide +kernel
theorem dX8_tick_367 : decode cX8_tick 367 = .ok (.getfield 125, 3) := by decide +kernel
theorem dX8_tick_370 : decode cX8_tick 370 = .ok (.aload_n 0, 1) := by decide +kernel
theorem dX8_tick_371 : decode cX8_tick 371 = .ok (.getfield 26, 3) := by decide +kernel
theorem dX8_tick_374 : decode cX8_tick 374 = .ok (.iload 6, 2) := by decide +kernel
theorem dX8_tick_376 : decode cX8_tick 376 = .ok (.iaload, 1) := by decide +kernel
theorem dX8_tick_377 : decode cX8_tick 377 = .ok (.isub, 1) := by decide +kernel
theorem dX8_tick_378 : decode cX8_tick 378 = .ok (.putfield 125, 3) := by decide +kernel
theorem dX8_tick_381 : decode cX8_tick 381 = .ok (.aload_n 0, 1) := by decide +kernel
theorem dX8_tick_382 : decode cX8_tick 382 = .ok (.getfield 32, 3) := by decide +kernel
theorem dX8_tick_385 : decode cX8_tick 385 = .ok (.iload 6, 2) := by decide +kernel
theorem dX8_tick_387 : decode cX8_tick 387 = .ok (.aaload, 1) := by decide +kernel
theorem dX8_tick_388 : decode cX8_tick 388 = .ok (.dup, 1) := by decide +kernel
theorem dX8_tick_389 : decode cX8_tick 389 = .ok (.getfield 145, 3) := by decide +kernel
theorem dX8_tick_392 : decode cX8_tick 392 = .ok (.aload_n 0, 1) := by decide +kernel
theorem dX8_tick_393 : decode cX8_tick 393 = .ok (.getfield 26, 3) := by decide +kernel
theorem dX8_tick_396 : decode cX8_tick 396 = .ok (.iload 6, 2) := by decide +kernel
theorem dX8_tick_398 : decode cX8_tick 398 = .ok (.iaload, 1) := by decide +kernel
theorem dX8_tick_399 : decode cX8_tick 399 = .ok (.iadd, 1) := by decide +kernel
theorem dX8_tick_400 : decode cX8_tick 400 = .ok (.putfield 145, 3) := by decide +kernel
theorem dX8_tick_403 : decode cX8_tick 403 = .ok (.iload_n 1, 1) := by decide +kernel
theorem dX8_tick_404 : decode cX8_tick 404 = .ok (.aload_n 0, 1) := by decide +kernel
theorem dX8_tick_405 : decode cX8_tick 405 = .ok (.getfield 26, 3) := by decide +kernel
theorem dX8_tick_408 : decode cX8_tick 408 = .ok (.iload 6, 2) := by decide +kernel
theorem dX8_tick_410 : decode cX8_tick 410 = .ok (.iaload, 1) := by decide +kernel
theorem dX8_tick_411 : decode cX8_tick 411 = .ok (.isub, 1) := by decide +kernel
theorem dX8_tick_412 : decode cX8_tick 412 = .ok (.istore_n 1, 1) := by decide +kernel
theorem dX8_tick_413 : decode cX8_tick 413 = .ok (.aload_n 0, 1) := by decide +kernel
theorem dX8_tick_414 : decode cX8_tick 414 = .ok (.getfield 23, 3) := by decide +kernel
theorem dX8_tick_417 : decode cX8_tick 417 = .ok (.iconst 0, 1) := by decide +kernel
theorem dX8_tick_418 : decode cX8_tick 418 = .ok (.dup2, 1) := by decide +kernel
theorem dX8_tick_419 : decode cX8_tick 419 = .ok (.iaload, 1) := by decide +kernel
theorem dX8_tick_420 : decode cX8_tick 420 = .ok (.aload_n 0, 1) := by decide +kernel
theorem dX8_tick_421 : decode cX8_tick 421 = .ok (.getfield 26, 3) := by decide +kernel
theorem dX8_tick_424 : decode cX8_tick 424 = .ok (.iload 6, 2) := by decide +kernel
theorem dX8_tick_426 : decode cX8_tick 426 = .ok (.iaload, 1) := by decide +kernel
theorem dX8_tick_427 : decode cX8_tick 427 = .ok (.iadd, 1) := by decide +kernel
theorem dX8_tick_428 : decode cX8_tick 428 = .ok (.iastore, 1) := by decide +kernel
theorem dX8_tick_429 : decode cX8_tick 429 = .ok (.iinc 6 1, 3) := by decide +kernel
theorem dX8_tick_432 : decode cX8_tick 432 = .ok (.goto (-82), 3) := by decide +kernel
theorem dX8_tick_435 : decode cX8_tick 435 = .ok (.goto (-285), 3) := by decide +kernel
theorem dX8_tick_438 : decode cX8_tick 438 = .ok (.aload_n 0, 1) := by decide +kernel
theorem dX8_tick_439 : decode cX8_tick 439 = .ok (.getfield 23, 3) := by decide +kernel
theorem dX8_tick_442 : decode cX8_tick 442 = .ok (.iconst 1, 1) := by decide +kernel
theorem dX8_tick_443 : decode cX8_tick 443 = .ok (.dup2, 1) := by decide +kernel
theorem dX8_tick_444 : decode cX8_tick 444 = .ok (.iaload, 1) := by decide +kernel
theorem dX8_tick_445 : decode cX8_tick 445 = .ok (.iload_n 1, 1) := by decide +kernel
theorem dX8_tick_446 : decode cX8_tick 446 = .ok (.iadd, 1) := by decide +kernel
theorem dX8_tick_447 : decode cX8_tick 447 = .ok (.iastore, 1) := by decide +kernel
theorem dX8_tick_448 : decode cX8_tick 448 = .ok (.iconst 0, 1) := by decide +kernel
theorem dX8_tick_449 : decode cX8_tick 449 = .ok (.istore_n 3, 1) := by decide +kernel
theorem dX8_tick_450 : decode cX8_tick 450 = .ok (.iload_n 3, 1) := by decide +kernel
theorem dX8_tick_451 : decode cX8_tick 451 = .ok (.aload_n 0, 1) := by decide +kernel
theorem dX8_tick_452 : decode cX8_tick 452 = .ok (.getfield 48, 3) := by decide +kernel
theorem dX8_tick_455 : decode cX8_tick 455 = .ok (.if_icmp .ge 56, 3) := by decide +kernel
theorem dX8_tick_458 : decode cX8_tick 458 = .ok (.aload_n 0, 1) := by decide +kernel
theorem dX8_tick_459 : decode cX8_tick 459 = .ok (.getfield 32, 3) := by decide +kernel
theorem dX8_tick_462 : decode cX8_tick 462 = .ok (.iload_n 3, 1) := by decide +kernel
theorem dX8_tick_463 : decode cX8_tick 463 = .ok (.aaload, 1) := by decide +kernel
theorem dX8_tick_464 : decode cX8_tick 464 = .ok (.getfield 102, 3) := by decide +kernel
theorem dX8_tick_467 : decode cX8_tick 467 = .ok (.iconst 4, 1) := by decide +kernel
theorem dX8_tick_468 : decode cX8_tick 468 = .ok (.if_icmp .eq 37, 3) := by decide +kernel
theorem dX8_tick_471 : decode cX8_tick 471 = .ok (.aload_n 0, 1) := by decide +kernel
theorem dX8_tick_472 : decode cX8_tick 472 = .ok (.getfield 32, 3) := by decide +kernel
theorem dX8_tick_475 : decode cX8_tick 475 = .ok (.iload_n 3, 1) := by decide +kernel
theorem dX8_tick_476 : decode cX8_tick 476 = .ok (.aaload, 1) := by decide +kernel
theorem dX8_tick_477 : decode cX8_tick 477 = .ok (.getfield 108, 3) := by decide +kernel
theorem dX8_tick_480 : decode cX8_tick 480 = .ok (.ifCond .lt 25, 3) := by decide +kernel
theorem dX8_tick_483 : decode cX8_tick 483 = .ok (.aload_n 0, 1) := by decide +kernel
theorem dX8_tick_484 : decode cX8_tick 484 = .ok (.getfield 32, 3) := by decide +kernel
theorem dX8_tick_487 : decode cX8_tick 487 = .ok (.iload_n 3, 1) := by decide +kernel
theorem dX8_tick_488 : decode cX8_tick 488 = .ok (.aaload, 1) := by decide +kernel
theorem dX8_tick_489 : decode cX8_tick 489 = .ok (.getfield 125, 3) := by decide +kernel
theorem dX8_tick_492 : decode cX8_tick 492 = .ok (.ifCond .ne 13, 3) := by decide +kernel
theorem dX8_tick_495 : decode cX8_tick 495 = .ok (.aload_n 0, 1) := by decide +kernel
theorem dX8_tick_496 : decode cX8_tick 496 = .ok (.aload_n 0, 1) := by decide +kernel
theorem dX8_tick_497 : decode cX8_tick 497 = .ok (.getfield 32, 3) := by decide +kernel
theorem dX8_tick_500 : decode cX8_tick 500 = .ok (.iload_n 3, 1) := by decide +kernel
theorem dX8_tick_501 : decode cX8_tick 501 = .ok (.aaload, 1) := by decide +kernel
theorem dX8_tick_502 : decode cX8_tick 502 = .ok (.invokevirtual 148, 3) := by decide +kernel
theorem dX8_tick_505 : decode cX8_tick 505 = .ok (.iinc 3 1, 3) := by decide +kernel
theorem dX8_tick_508 : decode cX8_tick 508 = .ok (.goto (-58), 3) := by decide +kernel
theorem dX8_tick_511 : decode cX8_tick 511 = .ok (.iconst 0, 1) := by decide +kernel
theorem dX8_tick_512 : decode cX8_tick 512 = .ok (.istore_n 3, 1) := by decide +kernel
theorem dX8_tick_513 : decode cX8_tick 513 = .ok (.iload_n 3, 1) := by decide +kernel
theorem dX8_tick_514 : decode cX8_tick 514 = .ok (.aload_n 0, 1) := by decide +kernel
theorem dX8_tick_515 : decode cX8_tick 515 = .ok (.getfield 48, 3) := by decide +kernel
theorem dX8_tick_518 : decode cX8_tick 518 = .ok (.if_icmp .ge 48, 3) := by decide +kernel
theorem dX8_tick_521 : decode cX8_tick 521 = .ok (.aload_n 0, 1) := by decide +kernel
theorem dX8_tick_522 : decode cX8_tick 522 = .ok (.getfield 57, 3) := by decide +kernel
theorem dX8_tick_525 : decode cX8_tick 525 = .ok (.aload_n 0, 1) := by decide +kernel
theorem dX8_tick_526 : decode cX8_tick 526 = .ok (.getfield 32, 3) := by decide +kernel
theorem dX8_tick_529 : decode cX8_tick 529 = .ok (.iload_n 3, 1) := by decide +kernel
theorem dX8_tick_530 : decode cX8_tick 530 = .ok (.aaload, 1) := by decide +kernel
theorem dX8_tick_531 : decode cX8_tick 531 = .ok (.getfield 105, 3) := by decide +kernel
theorem dX8_tick_534 : decode cX8_tick 534 = .ok (.if_icmp .lt 26, 3) := by decide +kernel
theorem dX8_tick_537 : decode cX8_tick 537 = .ok (.aload_n 0, 1) := by decide +kernel
theorem dX8_tick_538 : decode cX8_tick 538 = .ok (.getfield 32, 3) := by decide +kernel
theorem dX8_tick_541 : decode cX8_tick 541 = .ok (.iload_n 3, 1) := by decide +kernel
theorem dX8_tick_542 : decode cX8_tick 542 = .ok (.aaload, 1) := by decide +kernel
theorem dX8_tick_543 : decode cX8_tick 543 = .ok (.getfield 102, 3) := by decide +kernel
theorem dX8_tick_546 : decode cX8_tick 546 = .ok (.iconst 3, 1) := by decide +kernel
theorem dX8_tick_547 : decode cX8_tick 547 = .ok (.if_icmp .ge 13, 3) := by decide +kernel
theorem dX8_tick_550 : decode cX8_tick 550 = .ok (.aload_n 0, 1) := by decide +kernel
theorem dX8_tick_551 : decode cX8_tick 551 = .ok (.aload_n 0, 1) := by decide +kernel
theorem dX8_tick_552 : decode cX8_tick 552 = .ok (.getfield 32, 3) := by decide +kernel
theorem dX8_tick_555 : decode cX8_tick 555 = .ok (.iload_n 3, 1) := by decide +kernel
theorem dX8_tick_556 : decode cX8_tick 556 = .ok (.aaload, 1) := by decide +kernel
theorem dX8_tick_557 : decode cX8_tick 557 = .ok (.invokevirtual 151, 3) := by decide +kernel
theorem dX8_tick_560 : decode cX8_tick 560 = .ok (.iinc 3 1, 3) := by decide +kernel
theorem dX8_tick_563 : decode cX8_tick 563 = .ok (.goto (-50), 3) := by decide +kernel
theorem dX8_tick_566 : decode cX8_tick 566 = .ok (.aload_n 0, 1) := by decide +kernel
theorem dX8_tick_567 : decode cX8_tick 567 = .ok (.dup, 1) := by decide +kernel
theorem dX8_tick_568 : decode cX8_tick 568 = .ok (.getfield 57, 3) := by decide +kernel
theorem dX8_tick_571 : decode cX8_tick 571 = .ok (.iconst 1, 1) := by decide +kernel
theorem dX8_tick_572 : decode cX8_tick 572 = .ok (.iadd, 1) := by decide +kernel
theorem dX8_tick_573 : decode cX8_tick 573 = .ok (.putfield 57, 3) := by decide +kernel
theorem dX8_tick_576 : decode cX8_tick 576 = .ok (.return_, 1) := by decide +kernel
theorem dX8_ones_0 : decode cX8_ones 0 = .ok (.aload_n 0, 1) := by decide +kernel
theorem dX8_ones_1 : decode cX8_ones 1 = .ok (.getfield 26, 3) := by decide +kernel
theorem dX8_ones_4 : decode cX8_ones 4 = .ok (.iconst 0, 1) := by decide +kernel
theorem dX8_ones_5 : decode cX8_ones 5 = .ok (.iaload, 1) := by decide +kernel
theorem dX8_ones_6 : decode cX8_ones 6 = .ok (.aload_n 0, 1) := by decide +kernel
theorem dX8_ones_7 : decode cX8_ones 7 = .ok (.getfield 26, 3) := by decide +kernel
theorem dX8_ones_10 : decode cX8_ones 10 = .ok (.iconst 1, 1) := by decide +kernel
theorem dX8_ones_11 : decode cX8_ones 11 = .ok (.iaload, 1) := by decide +kernel
theorem dX8_ones_12 : decode cX8_ones 12 = .ok (.iadd, 1) := by decide +kernel
theorem dX8_ones_13 : decode cX8_ones 13 = .ok (.aload_n 0, 1) := by decide +kernel
theorem dX8_ones_14 : decode cX8_ones 14 = .ok (.getfield 26, 3) := by decide +kernel
theorem dX8_ones_17 : decode cX8_ones 17 = .ok (.iconst 2, 1) := by decide +kernel
theorem dX8_ones_18 : decode cX8_ones 18 = .ok (.iaload, 1) := by decide +kernel
theorem dX8_ones_19 : decode cX8_ones 19 = .ok (.iadd, 1) := by decide +kernel
theorem dX8_ones_20 : decode cX8_ones 20 = .ok (.aload_n 0, 1) := by decide +kernel
theorem dX8_ones_21 : decode cX8_ones 21 = .ok (.getfield 26, 3) := by decide +kernel
theorem dX8_ones_24 : decode cX8_ones 24 = .ok (.iconst 3, 1) := by decide +kernel
theorem dX8_ones_25 : decode cX8_ones 25 = .ok (.iaload, 1) := by decide +kernel
theorem dX8_ones_26 : decode cX8_ones 26 = .ok (.iadd, 1) := by decide +kernel
theorem dX8_ones_27 : decode cX8_ones 27 = .ok (.ireturn, 1) := by decide +kernel
theorem dX8_wants_0 : decode cX8_wants 0 = .ok (.aload_n 0, 1) := by decide +kernel
theorem dX8_wants_1 : decode cX8_wants 1 = .ok (.getfield 32, 3) := by decide +kernel
theorem dX8_wants_4 : decode cX8_wants 4 = .ok (.iload_n 1, 1) := by decide +kernel
theorem dX8_wants_5 : decode cX8_wants 5 = .ok (.aaload, 1) := by decide +kernel
theorem dX8_wants_6 : decode cX8_wants 6 = .ok (.getfield 102, 3) := by decide +kernel
theorem dX8_wants_9 : decode cX8_wants 9 = .ok (.iconst 4, 1) := by decide +kernel
theorem dX8_wants_10 : decode cX8_wants 10 = .ok (.if_icmp .eq 31, 3) := by decide +kernel
theorem dX8_wants_13 : decode cX8_wants 13 = .ok (.aload_n 0, 1) := by decide +kernel
theorem dX8_wants_14 : decode cX8_wants 14 = .ok (.getfield 32, 3) := by decide +kernel
theorem dX8_wants_17 : decode cX8_wants 17 = .ok (.iload_n 1, 1) := by decide +kernel
theorem dX8_wants_18 : decode cX8_wants 18 = .ok (.aaload, 1) := by decide +kernel
theorem dX8_wants_19 : decode cX8_wants 19 = .ok (.getfield 108, 3) := by decide +kernel
theorem dX8_wants_22 : decode cX8_wants 22 = .ok (.ifCond .lt 19, 3) := by decide +kernel
theorem dX8_wants_25 : decode cX8_wants 25 = .ok (.aload_n 0, 1) := by decide +kernel
theorem dX8_wants_26 : decode cX8_wants 26 = .ok (.getfield 32, 3) := by decide +kernel
theorem dX8_wants_29 : decode cX8_wants 29 = .ok (.iload_n 1, 1) := by decide +kernel
theorem dX8_wants_30 : decode cX8_wants 30 = .ok (.aaload, 1) := by decide +kernel
theorem dX8_wants_31 : decode cX8_wants 31 = .ok (.getfield 125, 3) := by decide +kernel
theorem dX8_wants_34 : decode cX8_wants 34 = .ok (.ifCond .le 7, 3) := by decide +kernel
theorem dX8_wants_37 : decode cX8_wants 37 = .ok (.iconst 1, 1) := by decide +kernel
theorem dX8_wants_38 : decode cX8_wants 38 = .ok (.goto 4, 3) := by decide +kernel
theorem dX8_wants_41 : decode cX8_wants 41 = .ok (.iconst 0, 1) := by decide +kernel
theorem dX8_wants_42 : decode cX8_wants 42 = .ok (.ireturn, 1) := by decide +kernel
theorem dX8_comes_0 : decode cX8_comes 0 = .ok (.aload_n 1, 1) := by decide +kernel
theorem dX8_comes_1 : decode cX8_comes 1 = .ok (.dup, 1) := by decide +kernel
theorem dX8_comes_2 : decode cX8_comes 2 = .ok (.getfield 118, 3) := by decide +kernel
theorem dX8_comes_5 : decode cX8_comes 5 = .ok (.dup_x1, 1) := by decide +kernel
theorem dX8_comes_6 : decode cX8_comes 6 = .ok (.iconst 1, 1) := by decide +kernel
theorem dX8_comes_7 : decode cX8_comes 7 = .ok (.iadd, 1) := by decide +kernel
theorem dX8_comes_8 : decode cX8_comes 8 = .ok (.putfield 118, 3) := by decide +kernel
theorem dX8_comes_11 : decode cX8_comes 11 = .ok (.istore_n 2, 1) := by decide +kernel
theorem dX8_comes_12 : decode cX8_comes 12 = .ok (.aload_n 1, 1) := by decide +kernel
theorem dX8_comes_13 : decode cX8_comes 13 = .ok (.dup, 1) := by decide +kernel
theorem dX8_comes_14 : decode cX8_comes 14 = .ok (.getfield 82, 3) := by decide +kernel
theorem dX8_comes_17 : decode cX8_comes 17 = .ok (.aload_n 0, 1) := by decide +kernel
theorem dX8_comes_18 : decode cX8_comes 18 = .ok (.getfield 36, 3) := by decide +kernel
theorem dX8_comes_21 : decode cX8_comes 21 = .ok (.iadd, 1) := by decide +kernel
theorem dX8_comes_22 : decode cX8_comes 22 = .ok (.putfield 82, 3) := by decide +kernel
theorem dX8_comes_25 : decode cX8_comes 25 = .ok (.iload_n 2, 1) := by decide +kernel
theorem dX8_comes_26 : decode cX8_comes 26 = .ok (.ifCond .le 28, 3) := by decide +kernel
theorem dX8_comes_29 : decode cX8_comes 29 = .ok (.aload_n 1, 1) := by decide +kernel
theorem dX8_comes_30 : decode cX8_comes 30 = .ok (.getfield 154, 3) := by decide +kernel
theorem dX8_comes_33 : decode cX8_comes 33 = .ok (.iload_n 2, 1) := by decide +kernel
theorem dX8_comes_34 : decode cX8_comes 34 = .ok (.iconst 1, 1) := by decide +kernel
theorem dX8_comes_35 : decode cX8_comes 35 = .ok (.isub, 1) := by decide +kernel
theorem dX8_comes_36 : decode cX8_comes 36 = .ok (.iaload, 1) := by decide +kernel
theorem dX8_comes_37 : decode cX8_comes 37 = .ok (.aload_n 1, 1) := by decide +kernel
theorem dX8_comes_38 : decode cX8_comes 38 = .ok (.getfield 108, 3) := by decide +kernel
theorem dX8_comes_41 : decode cX8_comes 41 = .ok (.if_icmp .eq 13, 3) := by decide +kernel
theorem dX8_comes_44 : decode cX8_comes 44 = .ok (.aload_n 1, 1) := by decide +kernel
theorem dX8_comes_45 : decode cX8_comes 45 = .ok (.dup, 1) := by decide +kernel
theorem dX8_comes_46 : decode cX8_comes 46 = .ok (.getfield 157, 3) := by decide +kernel
theorem dX8_comes_49 : decode cX8_comes 49 = .ok (.iconst 1, 1) := by decide +kernel
theorem dX8_comes_50 : decode cX8_comes 50 = .ok (.iadd, 1) := by decide +kernel
theorem dX8_comes_51 : decode cX8_comes 51 = .ok (.putfield 157, 3) := by decide +kernel
theorem dX8_comes_54 : decode cX8_comes 54 = .ok (.aload_n 1, 1) := by decide +kernel
theorem dX8_comes_55 : decode cX8_comes 55 = .ok (.dup, 1) := by decide +kernel
theorem dX8_comes_56 : decode cX8_comes 56 = .ok (.getfield 160, 3) := by decide +kernel
theorem dX8_comes_59 : decode cX8_comes 59 = .ok (.aload_n 1, 1) := by decide +kernel
theorem dX8_comes_60 : decode cX8_comes 60 = .ok (.getfield 108, 3) := by decide +kernel
theorem dX8_comes_63 : decode cX8_comes 63 = .ok (.iadd, 1) := by decide +kernel
theorem dX8_comes_64 : decode cX8_comes 64 = .ok (.putfield 160, 3) := by decide +kernel
theorem dX8_comes_67 : decode cX8_comes 67 = .ok (.aload_n 1, 1) := by decide +kernel
theorem dX8_comes_68 : decode cX8_comes 68 = .ok (.aload_n 0, 1) := by decide +kernel
theorem dX8_comes_69 : decode cX8_comes 69 = .ok (.aload_n 1, 1) := by decide +kernel
theorem dX8_comes_70 : decode cX8_comes 70 = .ok (.iload_n 2, 1) := by decide +kernel
theorem dX8_comes_71 : decode cX8_comes 71 = .ok (.aload_n 1, 1) := by decide +kernel
theorem dX8_comes_72 : decode cX8_comes 72 = .ok (.getfield 108, 3) := by decide +kernel
theorem dX8_comes_75 : decode cX8_comes 75 = .ok (.invokevirtual 92, 3) := by decide +kernel
theorem dX8_comes_78 : decode cX8_comes 78 = .ok (.aload_n 0, 1) := by decide +kernel
theorem dX8_comes_79 : decode cX8_comes 79 = .ok (.getfield 57, 3) := by decide +kernel
theorem dX8_comes_82 : decode cX8_comes 82 = .ok (.iconst 1, 1) := by decide +kernel
theorem dX8_comes_83 : decode cX8_comes 83 = .ok (.iadd, 1) := by decide +kernel
theorem dX8_comes_84 : decode cX8_comes 84 = .ok (.aload_n 1, 1) := by decide +kernel
theorem dX8_comes_85 : decode cX8_comes 85 = .ok (.getfield 128, 3) := by decide +kernel
theorem dX8_comes_88 : decode cX8_comes 88 = .ok (.isub, 1) := by decide +kernel
theorem dX8_comes_89 : decode cX8_comes 89 = .ok (.idiv, 1) := by decide +kernel
theorem dX8_comes_90 : decode cX8_comes 90 = .ok (.putfield 96, 3) := by decide +kernel
theorem dX8_comes_93 : decode cX8_comes 93 = .ok (.aload_n 1, 1) := by decide +kernel
theorem dX8_comes_94 : decode cX8_comes 94 = .ok (.getfield 154, 3) := by decide +kernel
theorem dX8_comes_97 : decode cX8_comes 97 = .ok (.iload_n 2, 1) := by decide +kernel
theorem dX8_comes_98 : decode cX8_comes 98 = .ok (.aload_n 1, 1) := by decide +kernel
theorem dX8_comes_99 : decode cX8_comes 99 = .ok (.getfield 108, 3) := by decide +kernel
theorem dX8_comes_102 : decode cX8_comes 102 = .ok (.iastore, 1) := by decide +kernel
theorem dX8_comes_103 : decode cX8_comes 103 = .ok (.aload_n 1, 1) := by decide +kernel
theorem dX8_comes_104 : decode cX8_comes 104 = .ok (.getfield 163, 3) := by decide +kernel
theorem dX8_comes_107 : decode cX8_comes 107 = .ok (.iload_n 2, 1) := by decide +kernel
theorem dX8_comes_108 : decode cX8_comes 108 = .ok (.aload_n 1, 1) := by decide +kernel
theorem dX8_comes_109 : decode cX8_comes 109 = .ok (.getfield 128, 3) := by decide +kernel
theorem dX8_comes_112 : decode cX8_comes 112 = .ok (.iastore, 1) := by decide +kernel
theorem dX8_comes_113 : decode cX8_comes 113 = .ok (.aload_n 1, 1) := by decide +kernel
theorem dX8_comes_114 : decode cX8_comes 114 = .ok (.getfield 166, 3) := by decide +kernel
theorem dX8_comes_117 : decode cX8_comes 117 = .ok (.iload_n 2, 1) := by decide +kernel
theorem dX8_comes_118 : decode cX8_comes 118 = .ok (.aload_n 0, 1) := by decide +kernel
theorem dX8_comes_119 : decode cX8_comes 119 = .ok (.getfield 57, 3) := by decide +kernel
theorem dX8_comes_122 : decode cX8_comes 122 = .ok (.iastore, 1) := by decide +kernel
theorem dX8_comes_123 : decode cX8_comes 123 = .ok (.aload_n 1, 1) := by decide +kernel
theorem dX8_comes_124 : decode cX8_comes 124 = .ok (.iconst (-1), 1) := by decide +kernel
theorem dX8_comes_125 : decode cX8_comes 125 = .ok (.putfield 108, 3) := by decide +kernel
theorem dX8_comes_128 : decode cX8_comes 128 = .ok (.aload_n 0, 1) := by decide +kernel
theorem dX8_comes_129 : decode cX8_comes 129 = .ok (.getfield 23, 3) := by decide +kernel
theorem dX8_comes_132 : decode cX8_comes 132 = .ok (.iconst 3, 1) := by decide +kernel
theorem dX8_comes_133 : decode cX8_comes 133 = .ok (.dup2, 1) := by decide +kernel
theorem dX8_comes_134 : decode cX8_comes 134 = .ok (.iaload, 1) := by decide +kernel
theorem dX8_comes_135 : decode cX8_comes 135 = .ok (.iconst 1, 1) := by decide +kernel
theorem dX8_comes_136 : decode cX8_comes 136 = .ok (.iadd, 1) := by decide +kernel
theorem dX8_comes_137 : decode cX8_comes 137 = .ok (.iastore, 1) := by decide +kernel
theorem dX8_comes_138 : decode cX8_comes 138 = .ok (.return_, 1) := by decide +kernel
theorem dX8_plays_0 : decode cX8_plays 0 = .ok (.aload_n 1, 1) := by decide +kernel
theorem dX8_plays_1 : decode cX8_plays 1 = .ok (.getfield 102, 3) := by decide +kernel
theorem dX8_plays_4 : decode cX8_plays 4 = .ok (.iconst 1, 1) := by decide +kernel
theorem dX8_plays_5 : decode cX8_plays 5 = .ok (.if_icmp .eq 26, 3) := by decide +kernel
theorem dX8_plays_8 : decode cX8_plays 8 = .ok (.aload_n 1, 1) := by decide +kernel
theorem dX8_plays_9 : decode cX8_plays 9 = .ok (.getfield 82, 3) := by decide +kernel
theorem dX8_plays_12 : decode cX8_plays 12 = .ok (.aload_n 0, 1) := by decide +kernel
theorem dX8_plays_13 : decode cX8_plays 13 = .ok (.getfield 39, 3) := by decide +kernel
theorem dX8_plays_16 : decode cX8_plays 16 = .ok (.if_icmp .ge 10, 3) := by decide +kernel
theorem dX8_plays_19 : decode cX8_plays 19 = .ok (.aload_n 1, 1) := by decide +kernel
theorem dX8_plays_20 : decode cX8_plays 20 = .ok (.invokevirtual 111, 3) := by decide +kernel
theorem dX8_plays_23 : decode cX8_plays 23 = .ok (.ifCond .eq 8, 3) := by decide +kernel
theorem dX8_plays_26 : decode cX8_plays 26 = .ok (.aload_n 1, 1) := by decide +kernel
theorem dX8_plays_27 : decode cX8_plays 27 = .ok (.iconst 1, 1) := by decide +kernel
theorem dX8_plays_28 : decode cX8_plays 28 = .ok (.putfield 102, 3) := by decide +kernel
theorem dX8_plays_31 : decode cX8_plays 31 = .ok (.aload_n 1, 1) := by decide +kernel
theorem dX8_plays_32 : decode cX8_plays 32 = .ok (.getfield 102, 3) := by decide +kernel
theorem dX8_plays_35 : decode cX8_plays 35 = .ok (.iconst 1, 1) := by decide +kernel
theorem dX8_plays_36 : decode cX8_plays 36 = .ok (.if_icmp .ne 55, 3) := by decide +kernel
theorem dX8_plays_39 : decode cX8_plays 39 = .ok (.aload_n 1, 1) := by decide +kernel
theorem dX8_plays_40 : decode cX8_plays 40 = .ok (.getfield 82, 3) := by decide +kernel
theorem dX8_plays_43 : decode cX8_plays 43 = .ok (.ifCond .le 26, 3) := by decide +kernel
theorem dX8_plays_46 : decode cX8_plays 46 = .ok (.aload_n 1, 1) := by decide +kernel
theorem dX8_plays_47 : decode cX8_plays 47 = .ok (.dup, 1) := by decide +kernel
theorem dX8_plays_48 : decode cX8_plays 48 = .ok (.getfield 82, 3) := by decide +kernel
theorem dX8_plays_51 : decode cX8_plays 51 = .ok (.iconst 1, 1) := by decide +kernel
theorem dX8_plays_52 : decode cX8_plays 52 = .ok (.isub, 1) := by decide +kernel
theorem dX8_plays_53 : decode cX8_plays 53 = .ok (.putfield 82, 3) := by decide +kernel
theorem dX8_plays_56 : decode cX8_plays 56 = .ok (.aload_n 1, 1) := by decide +kernel
theorem dX8_plays_57 : decode cX8_plays 57 = .ok (.dup, 1) := by decide +kernel
theorem dX8_plays_58 : decode cX8_plays 58 = .ok (.getfield 169, 3) := by decide +kernel
theorem dX8_plays_61 : decode cX8_plays 61 = .ok (.iconst 1, 1) := by decide +kernel
theorem dX8_plays_62 : decode cX8_plays 62 = .ok (.iadd, 1) := by decide +kernel
theorem dX8_plays_63 : decode cX8_plays 63 = .ok (.putfield 169, 3) := by decide +kernel
theorem dX8_plays_66 : decode cX8_plays 66 = .ok (.goto 25, 3) := by decide +kernel
theorem dX8_plays_69 : decode cX8_plays 69 = .ok (.aload_n 1, 1) := by decide +kernel
theorem dX8_plays_70 : decode cX8_plays 70 = .ok (.invokevirtual 111, 3) := by decide +kernel
theorem dX8_plays_73 : decode cX8_plays 73 = .ok (.ifCond .ne 18, 3) := by decide +kernel
theorem dX8_plays_76 : decode cX8_plays 76 = .ok (.aload_n 1, 1) := by decide +kernel
theorem dX8_plays_77 : decode cX8_plays 77 = .ok (.iconst 2, 1) := by decide +kernel
theorem dX8_plays_78 : decode cX8_plays 78 = .ok (.putfield 102, 3) := by decide +kernel
theorem dX8_plays_81 : decode cX8_plays 81 = .ok (.aload_n 1, 1) := by decide +kernel
theorem dX8_plays_82 : decode cX8_plays 82 = .ok (.dup, 1) := by decide +kernel
theorem dX8_plays_83 : decode cX8_plays 83 = .ok (.getfield 172, 3) := by decide +kernel
theorem dX8_plays_86 : decode cX8_plays 86 = .ok (.iconst 1, 1) := by decide +kernel
theorem dX8_plays_87 : decode cX8_plays 87 = .ok (.iadd, 1) := by decide +kernel
theorem dX8_plays_88 : decode cX8_plays 88 = .ok (.putfield 172, 3) := by decide +kernel
theorem dX8_plays_91 : decode cX8_plays 91 = .ok (.aload_n 1, 1) := by decide +kernel
theorem dX8_plays_92 : decode cX8_plays 92 = .ok (.getfield 102, 3) := by decide +kernel
theorem dX8_plays_95 : decode cX8_plays 95 = .ok (.iconst 2, 1) := by decide +kernel
theorem dX8_plays_96 : decode cX8_plays 96 = .ok (.if_icmp .ne 23, 3) := by decide +kernel
theorem dX8_plays_99 : decode cX8_plays 99 = .ok (.aload_n 1, 1) := by decide +kernel
theorem dX8_plays_100 : decode cX8_plays 100 = .ok (.dup, 1) := by decide +kernel
theorem dX8_plays_101 : decode cX8_plays 101 = .ok (.getfield 175, 3) := by decide +kernel
theorem dX8_plays_104 : decode cX8_plays 104 = .ok (.iconst 1, 1) := by decide +kernel
theorem dX8_plays_105 : decode cX8_plays 105 = .ok (.iadd, 1) := by decide +kernel
theorem dX8_plays_106 : decode cX8_plays 106 = .ok (.putfield 175, 3) := by decide +kernel
theorem dX8_plays_109 : decode cX8_plays 109 = .ok (.aload_n 0, 1) := by decide +kernel
theorem dX8_plays_110 : decode cX8_plays 110 = .ok (.getfield 23, 3) := by decide +kernel
theorem dX8_plays_113 : decode cX8_plays 113 = .ok (.iconst 2, 1) := by decide +kernel
theorem dX8_plays_114 : decode cX8_plays 114 = .ok (.dup2, 1) := by decide +kernel
theorem dX8_plays_115 : decode cX8_plays 115 = .ok (.iaload, 1) := by decide +kernel
theorem dX8_plays_116 : decode cX8_plays 116 = .ok (.iconst 1, 1) := by decide +kernel
theorem dX8_plays_117 : decode cX8_plays 117 = .ok (.iadd, 1) := by decide +kernel
theorem dX8_plays_118 : decode cX8_plays 118 = .ok (.iastore, 1) := by decide +kernel
theorem dX8_plays_119 : decode cX8_plays 119 = .ok (.aload_n 1, 1) := by decide +kernel
theorem dX8_plays_120 : decode cX8_plays 120 = .ok (.invokevirtual 111, 3) := by decide +kernel
theorem dX8_plays_123 : decode cX8_plays 123 = .ok (.ifCond .eq 15, 3) := by decide +kernel
theorem dX8_plays_126 : decode cX8_plays 126 = .ok (.aload_n 1, 1) := by decide +kernel
theorem dX8_plays_127 : decode cX8_plays 127 = .ok (.getfield 82, 3) := by decide +kernel
theorem dX8_plays_130 : decode cX8_plays 130 = .ok (.ifCond .ne 8, 3) := by decide +kernel
theorem dX8_plays_133 : decode cX8_plays 133 = .ok (.aload_n 1, 1) := by decide +kernel
theorem dX8_plays_134 : decode cX8_plays 134 = .ok (.iconst 3, 1) := by decide +kernel
theorem dX8_plays_135 : decode cX8_plays 135 = .ok (.putfield 102, 3) := by decide +kernel
theorem dX8_plays_138 : decode cX8_plays 138 = .ok (.return_, 1) := by decide +kernel
theorem dX8_goesOn_0 : decode cX8_goesOn 0 = .ok (.iconst 0, 1) := by decide +kernel
theorem dX8_goesOn_1 : decode cX8_goesOn 1 = .ok (.istore_n 1, 1) := by decide +kernel
theorem dX8_goesOn_2 : decode cX8_goesOn 2 = .ok (.iload_n 1, 1) := by decide +kernel
theorem dX8_goesOn_3 : decode cX8_goesOn 3 = .ok (.ifCond .ne 65, 3) := by decide +kernel
theorem dX8_goesOn_6 : decode cX8_goesOn 6 = .ok (.aload_n 0, 1) := by decide +kernel
theorem dX8_goesOn_7 : decode cX8_goesOn 7 = .ok (.getfield 57, 3) := by decide +kernel
theorem dX8_goesOn_10 : decode cX8_goesOn 10 = .ok (.sipush 2000, 3) := by decide +kernel
theorem dX8_goesOn_13 : decode cX8_goesOn 13 = .ok (.if_icmp .ge 55, 3) := by decide +kernel
theorem dX8_goesOn_16 : decode cX8_goesOn 16 = .ok (.iconst 1, 1) := by decide +kernel
theorem dX8_goesOn_17 : decode cX8_goesOn 17 = .ok (.istore_n 1, 1) := by decide +kernel
theorem dX8_goesOn_18 : decode cX8_goesOn 18 = .ok (.iconst 0, 1) := by decide +kernel
theorem dX8_goesOn_19 : decode cX8_goesOn 19 = .ok (.istore_n 2, 1) := by decide +kernel
theorem dX8_goesOn_20 : decode cX8_goesOn 20 = .ok (.iload_n 2, 1) := by decide +kernel
theorem dX8_goesOn_21 : decode cX8_goesOn 21 = .ok (.aload_n 0, 1) := by decide +kernel
theorem dX8_goesOn_22 : decode cX8_goesOn 22 = .ok (.getfield 48, 3) := by decide +kernel
theorem dX8_goesOn_25 : decode cX8_goesOn 25 = .ok (.if_icmp .ge 32, 3) := by decide +kernel
theorem dX8_goesOn_28 : decode cX8_goesOn 28 = .ok (.iload_n 1, 1) := by decide +kernel
theorem dX8_goesOn_29 : decode cX8_goesOn 29 = .ok (.ifCond .eq 20, 3) := by decide +kernel
theorem dX8_goesOn_32 : decode cX8_goesOn 32 = .ok (.aload_n 0, 1) := by decide +kernel
theorem dX8_goesOn_33 : decode cX8_goesOn 33 = .ok (.getfield 32, 3) := by decide +kernel
theorem dX8_goesOn_36 : decode cX8_goesOn 36 = .ok (.iload_n 2, 1) := by decide +kernel
theorem dX8_goesOn_37 : decode cX8_goesOn 37 = .ok (.aaload, 1) := by decide +kernel
theorem dX8_goesOn_38 : decode cX8_goesOn 38 = .ok (.getfield 102, 3) := by decide +kernel
theorem dX8_goesOn_41 : decode cX8_goesOn 41 = .ok (.iconst 2, 1) := by decide +kernel
theorem dX8_goesOn_42 : decode cX8_goesOn 42 = .ok (.if_icmp .le 7, 3) := by decide +kernel
theorem dX8_goesOn_45 : decode cX8_goesOn 45 = .ok (.iconst 1, 1) := by decide +kernel
theorem dX8_goesOn_46 : decode cX8_goesOn 46 = .ok (.goto 4, 3) := by decide +kernel
theorem dX8_goesOn_49 : decode cX8_goesOn 49 = .ok (.iconst 0, 1) := by decide +kernel
theorem dX8_goesOn_50 : decode cX8_goesOn 50 = .ok (.istore_n 1, 1) := by decide +kernel
theorem dX8_goesOn_51 : decode cX8_goesOn 51 = .ok (.iinc 2 1, 3) := by decide +kernel
theorem dX8_goesOn_54 : decode cX8_goesOn 54 = .ok (.goto (-34), 3) := by decide +kernel
theorem dX8_goesOn_57 : decode cX8_goesOn 57 = .ok (.iload_n 1, 1) := by decide +kernel
theorem dX8_goesOn_58 : decode cX8_goesOn 58 = .ok (.ifCond .ne (-56), 3) := by decide +kernel
theorem dX8_goesOn_61 : decode cX8_goesOn 61 = .ok (.aload_n 0, 1) := by decide +kernel
theorem dX8_goesOn_62 : decode cX8_goesOn 62 = .ok (.invokevirtual 178, 3) := by decide +kernel
theorem dX8_goesOn_65 : decode cX8_goesOn 65 = .ok (.goto (-63), 3) := by decide +kernel
theorem dX8_goesOn_68 : decode cX8_goesOn 68 = .ok (.aload_n 0, 1) := by decide +kernel
theorem dX8_goesOn_69 : decode cX8_goesOn 69 = .ok (.areturn, 1) := by decide +kernel
theorem dX9_init_0 : decode cX9_init 0 = .ok (.aload_n 0, 1) := by decide +kernel
theorem dX9_init_1 : decode cX9_init 1 = .ok (.invokespecial 1, 3) := by decide +kernel
theorem dX9_init_4 : decode cX9_init 4 = .ok (.aload_n 0, 1) := by decide +kernel
