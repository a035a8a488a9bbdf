theorem dX8_varyLine_10 : decode cX8_varyLine 10 = .ok (.goto 4, 3) := by decide +kernel
theorem dX8_varyLine_13 : decode cX8_varyLine 13 = .ok (.iconst 0, 1) := by decide +kernel
theorem dX8_varyLine_14 : decode cX8_varyLine 14 = .ok (.invokevirtual 140, 3) := by decide +kernel
theorem dX8_varyLine_17 : decode cX8_varyLine 17 = .ok (.ifCond .ne 5, 3) := by decide +kernel
theorem dX8_varyLine_20 : decode cX8_varyLine 20 = .ok (.iconst 0, 1) := by decide +kernel
theorem dX8_varyLine_21 : decode cX8_varyLine 21 = .ok (.ireturn, 1) := by decide +kernel
theorem dX8_varyLine_22 : decode cX8_varyLine 22 = .ok (.aload_n 0, 1) := by decide +kernel
theorem dX8_varyLine_23 : decode cX8_varyLine 23 = .ok (.iconst 1, 1) := by decide +kernel
theorem dX8_varyLine_24 : decode cX8_varyLine 24 = .ok (.putfield 147, 3) := by decide +kernel
theorem dX8_varyLine_27 : decode cX8_varyLine 27 = .ok (.iconst 1, 1) := by decide +kernel
theorem dX8_varyLine_28 : decode cX8_varyLine 28 = .ok (.istore_n 1, 1) := by decide +kernel
theorem dX8_varyLine_29 : decode cX8_varyLine 29 = .ok (.iload_n 1, 1) := by decide +kernel
theorem dX8_varyLine_30 : decode cX8_varyLine 30 = .ok (.ifCond .eq 102, 3) := by decide +kernel
theorem dX8_varyLine_33 : decode cX8_varyLine 33 = .ok (.aload_n 0, 1) := by decide +kernel
theorem dX8_varyLine_34 : decode cX8_varyLine 34 = .ok (.getfield 105, 3) := by decide +kernel
theorem dX8_varyLine_37 : decode cX8_varyLine 37 = .ok (.iconst 2, 1) := by decide +kernel
theorem dX8_varyLine_38 : decode cX8_varyLine 38 = .ok (.if_icmp .eq 13, 3) := by decide +kernel
theorem dX8_varyLine_41 : decode cX8_varyLine 41 = .ok (.aload_n 0, 1) := by decide +kernel
theorem dX8_varyLine_42 : decode cX8_varyLine 42 = .ok (.getfield 28, 3) := by decide +kernel
theorem dX8_varyLine_45 : decode cX8_varyLine 45 = .ok (.bipush 6, 2) := by decide +kernel
theorem dX8_varyLine_47 : decode cX8_varyLine 47 = .ok (.iaload, 1) := by decide +kernel
theorem dX8_varyLine_48 : decode cX8_varyLine 48 = .ok (.ifCond .ne 84, 3) := by decide +kernel
theorem dX8_varyLine_51 : decode cX8_varyLine 51 = .ok (.aload_n 0, 1) := by decide +kernel
theorem dX8_varyLine_52 : decode cX8_varyLine 52 = .ok (.bipush 50, 2) := by decide +kernel
theorem dX8_varyLine_54 : decode cX8_varyLine 54 = .ok (.sipush 200, 3) := by decide +kernel
theorem dX8_varyLine_57 : decode cX8_varyLine 57 = .ok (.invokevirtual 130, 3) := by decide +kernel
theorem dX8_varyLine_60 : decode cX8_varyLine 60 = .ok (.ifCond .eq 48, 3) := by decide +kernel
theorem dX8_varyLine_63 : decode cX8_varyLine 63 = .ok (.aload_n 0, 1) := by decide +kernel
theorem dX8_varyLine_64 : decode cX8_varyLine 64 = .ok (.getfield 28, 3) := by decide +kernel
theorem dX8_varyLine_67 : decode cX8_varyLine 67 = .ok (.bipush 6, 2) := by decide +kernel
theorem dX8_varyLine_69 : decode cX8_varyLine 69 = .ok (.iaload, 1) := by decide +kernel
theorem dX8_varyLine_70 : decode cX8_varyLine 70 = .ok (.iconst 4, 1) := by decide +kernel
theorem dX8_varyLine_71 : decode cX8_varyLine 71 = .ok (.if_icmp .lt 11, 3) := by decide +kernel
theorem dX8_varyLine_74 : decode cX8_varyLine 74 = .ok (.aload_n 0, 1) := by decide +kernel
theorem dX8_varyLine_75 : decode cX8_varyLine 75 = .ok (.iconst 5, 1) := by decide +kernel
theorem dX8_varyLine_76 : decode cX8_varyLine 76 = .ok (.invokevirtual 123, 3) := by decide +kernel
theorem dX8_varyLine_79 : decode cX8_varyLine 79 = .ok (.ifCond .eq 29, 3) := by decide +kernel
theorem dX8_varyLine_82 : decode cX8_varyLine 82 = .ok (.aload_n 0, 1) := by decide +kernel
theorem dX8_varyLine_83 : decode cX8_varyLine 83 = .ok (.bipush 15, 2) := by decide +kernel
theorem dX8_varyLine_85 : decode cX8_varyLine 85 = .ok (.aload_n 0, 1) := by decide +kernel
theorem dX8_varyLine_86 : decode cX8_varyLine 86 = .ok (.getfield 28, 3) := by decide +kernel
theorem dX8_varyLine_89 : decode cX8_varyLine 89 = .ok (.bipush 6, 2) := by decide +kernel
theorem dX8_varyLine_91 : decode cX8_varyLine 91 = .ok (.iaload, 1) := by decide +kernel
theorem dX8_varyLine_92 : decode cX8_varyLine 92 = .ok (.iadd, 1) := by decide +kernel
theorem dX8_varyLine_93 : decode cX8_varyLine 93 = .ok (.bipush 50, 2) := by decide +kernel
theorem dX8_varyLine_95 : decode cX8_varyLine 95 = .ok (.sipush 200, 3) := by decide +kernel
theorem dX8_varyLine_98 : decode cX8_varyLine 98 = .ok (.invokevirtual 144, 3) := by decide +kernel
theorem dX8_varyLine_101 : decode cX8_varyLine 101 = .ok (.ifCond .eq 7, 3) := by decide +kernel
theorem dX8_varyLine_104 : decode cX8_varyLine 104 = .ok (.iconst 1, 1) := by decide +kernel
theorem dX8_varyLine_105 : decode cX8_varyLine 105 = .ok (.goto 4, 3) := by decide +kernel
theorem dX8_varyLine_108 : decode cX8_varyLine 108 = .ok (.iconst 0, 1) := by decide +kernel
theorem dX8_varyLine_109 : decode cX8_varyLine 109 = .ok (.istore_n 1, 1) := by decide +kernel
theorem dX8_varyLine_110 : decode cX8_varyLine 110 = .ok (.aload_n 0, 1) := by decide +kernel
theorem dX8_varyLine_111 : decode cX8_varyLine 111 = .ok (.getfield 28, 3) := by decide +kernel
theorem dX8_varyLine_114 : decode cX8_varyLine 114 = .ok (.bipush 6, 2) := by decide +kernel
theorem dX8_varyLine_116 : decode cX8_varyLine 116 = .ok (.dup2, 1) := by decide +kernel
theorem dX8_varyLine_117 : decode cX8_varyLine 117 = .ok (.iaload, 1) := by decide +kernel
theorem dX8_varyLine_118 : decode cX8_varyLine 118 = .ok (.iload_n 1, 1) := by decide +kernel
theorem dX8_varyLine_119 : decode cX8_varyLine 119 = .ok (.ifCond .eq 7, 3) := by decide +kernel
theorem dX8_varyLine_122 : decode cX8_varyLine 122 = .ok (.iconst 1, 1) := by decide +kernel
theorem dX8_varyLine_123 : decode cX8_varyLine 123 = .ok (.goto 4, 3) := by decide +kernel
theorem dX8_varyLine_126 : decode cX8_varyLine 126 = .ok (.iconst 0, 1) := by decide +kernel
theorem dX8_varyLine_127 : decode cX8_varyLine 127 = .ok (.iadd, 1) := by decide +kernel
theorem dX8_varyLine_128 : decode cX8_varyLine 128 = .ok (.iastore, 1) := by decide +kernel
theorem dX8_varyLine_129 : decode cX8_varyLine 129 = .ok (.goto (-100), 3) := by decide +kernel
theorem dX8_varyLine_132 : decode cX8_varyLine 132 = .ok (.iload_n 1, 1) := by decide +kernel
theorem dX8_varyLine_133 : decode cX8_varyLine 133 = .ok (.ireturn, 1) := by decide +kernel
theorem dX8_joinLine_0 : decode cX8_joinLine 0 = .ok (.aload_n 0, 1) := by decide +kernel
theorem dX8_joinLine_1 : decode cX8_joinLine 1 = .ok (.invokevirtual 127, 3) := by decide +kernel
theorem dX8_joinLine_4 : decode cX8_joinLine 4 = .ok (.aload_n 0, 1) := by decide +kernel
theorem dX8_joinLine_5 : decode cX8_joinLine 5 = .ok (.getfield 105, 3) := by decide +kernel
theorem dX8_joinLine_8 : decode cX8_joinLine 8 = .ok (.iconst 1, 1) := by decide +kernel
theorem dX8_joinLine_9 : decode cX8_joinLine 9 = .ok (.if_icmp .eq 9, 3) := by decide +kernel
theorem dX8_joinLine_12 : decode cX8_joinLine 12 = .ok (.aload_n 0, 1) := by decide +kernel
theorem dX8_joinLine_13 : decode cX8_joinLine 13 = .ok (.iconst 1, 1) := by decide +kernel
theorem dX8_joinLine_14 : decode cX8_joinLine 14 = .ok (.invokevirtual 123, 3) := by decide +kernel
theorem dX8_joinLine_17 : decode cX8_joinLine 17 = .ok (.ireturn, 1) := by decide +kernel
theorem dX8_joinLine_18 : decode cX8_joinLine 18 = .ok (.aload_n 0, 1) := by decide +kernel
theorem dX8_joinLine_19 : decode cX8_joinLine 19 = .ok (.getfield 40, 3) := by decide +kernel
theorem dX8_joinLine_22 : decode cX8_joinLine 22 = .ok (.aload_n 0, 1) := by decide +kernel
theorem dX8_joinLine_23 : decode cX8_joinLine 23 = .ok (.getfield 28, 3) := by decide +kernel
theorem dX8_joinLine_26 : decode cX8_joinLine 26 = .ok (.iconst 4, 1) := by decide +kernel
theorem dX8_joinLine_27 : decode cX8_joinLine 27 = .ok (.iaload, 1) := by decide +kernel
theorem dX8_joinLine_28 : decode cX8_joinLine 28 = .ok (.aload_n 0, 1) := by decide +kernel
theorem dX8_joinLine_29 : decode cX8_joinLine 29 = .ok (.getfield 84, 3) := by decide +kernel
theorem dX8_joinLine_32 : decode cX8_joinLine 32 = .ok (.invokestatic 151, 3) := by decide +kernel
theorem dX8_joinLine_35 : decode cX8_joinLine 35 = .ok (.istore_n 1, 1) := by decide +kernel
theorem dX8_joinLine_36 : decode cX8_joinLine 36 = .ok (.iload_n 1, 1) := by decide +kernel
theorem dX8_joinLine_37 : decode cX8_joinLine 37 = .ok (.iconst (-1), 1) := by decide +kernel
theorem dX8_joinLine_38 : decode cX8_joinLine 38 = .ok (.if_icmp .eq 21, 3) := by decide +kernel
theorem dX8_joinLine_41 : decode cX8_joinLine 41 = .ok (.aload_n 0, 1) := by decide +kernel
theorem dX8_joinLine_42 : decode cX8_joinLine 42 = .ok (.getfield 155, 3) := by decide +kernel
theorem dX8_joinLine_45 : decode cX8_joinLine 45 = .ok (.iload_n 1, 1) := by decide +kernel
theorem dX8_joinLine_46 : decode cX8_joinLine 46 = .ok (.ishr, 1) := by decide +kernel
theorem dX8_joinLine_47 : decode cX8_joinLine 47 = .ok (.iconst 1, 1) := by decide +kernel
theorem dX8_joinLine_48 : decode cX8_joinLine 48 = .ok (.iand, 1) := by decide +kernel
theorem dX8_joinLine_49 : decode cX8_joinLine 49 = .ok (.iconst 1, 1) := by decide +kernel
theorem dX8_joinLine_50 : decode cX8_joinLine 50 = .ok (.if_icmp .ne 9, 3) := by decide +kernel
theorem dX8_joinLine_53 : decode cX8_joinLine 53 = .ok (.aload_n 0, 1) := by decide +kernel
theorem dX8_joinLine_54 : decode cX8_joinLine 54 = .ok (.iconst 2, 1) := by decide +kernel
theorem dX8_joinLine_55 : decode cX8_joinLine 55 = .ok (.invokevirtual 123, 3) := by decide +kernel
theorem dX8_joinLine_58 : decode cX8_joinLine 58 = .ok (.ireturn, 1) := by decide +kernel
theorem dX8_joinLine_59 : decode cX8_joinLine 59 = .ok (.aload_n 0, 1) := by decide +kernel
theorem dX8_joinLine_60 : decode cX8_joinLine 60 = .ok (.iconst 4, 1) := by decide +kernel
theorem dX8_joinLine_61 : decode cX8_joinLine 61 = .ok (.iload_n 1, 1) := by decide +kernel
theorem dX8_joinLine_62 : decode cX8_joinLine 62 = .ok (.iconst (-1), 1) := by decide +kernel
theorem dX8_joinLine_63 : decode cX8_joinLine 63 = .ok (.if_icmp .eq 7, 3) := by decide +kernel
theorem dX8_joinLine_66 : decode cX8_joinLine 66 = .ok (.iconst 1, 1) := by decide +kernel
theorem dX8_joinLine_67 : decode cX8_joinLine 67 = .ok (.goto 4, 3) := by decide +kernel
theorem dX8_joinLine_70 : decode cX8_joinLine 70 = .ok (.iconst 0, 1) := by decide +kernel
theorem dX8_joinLine_71 : decode cX8_joinLine 71 = .ok (.invokevirtual 140, 3) := by decide +kernel
theorem dX8_joinLine_74 : decode cX8_joinLine 74 = .ok (.ifCond .ne 5, 3) := by decide +kernel
theorem dX8_joinLine_77 : decode cX8_joinLine 77 = .ok (.iconst 0, 1) := by decide +kernel
theorem dX8_joinLine_78 : decode cX8_joinLine 78 = .ok (.ireturn, 1) := by decide +kernel
theorem dX8_joinLine_79 : decode cX8_joinLine 79 = .ok (.aload_n 0, 1) := by decide +kernel
theorem dX8_joinLine_80 : decode cX8_joinLine 80 = .ok (.dup, 1) := by decide +kernel
theorem dX8_joinLine_81 : decode cX8_joinLine 81 = .ok (.getfield 155, 3) := by decide +kernel
theorem dX8_joinLine_84 : decode cX8_joinLine 84 = .ok (.iconst 1, 1) := by decide +kernel
theorem dX8_joinLine_85 : decode cX8_joinLine 85 = .ok (.iload_n 1, 1) := by decide +kernel
theorem dX8_joinLine_86 : decode cX8_joinLine 86 = .ok (.ishl, 1) := by decide +kernel
theorem dX8_joinLine_87 : decode cX8_joinLine 87 = .ok (.ior, 1) := by decide +kernel
theorem dX8_joinLine_88 : decode cX8_joinLine 88 = .ok (.putfield 155, 3) := by decide +kernel
theorem dX8_joinLine_91 : decode cX8_joinLine 91 = .ok (.aload_n 0, 1) := by decide +kernel
theorem dX8_joinLine_92 : decode cX8_joinLine 92 = .ok (.bipush 19, 2) := by decide +kernel
theorem dX8_joinLine_94 : decode cX8_joinLine 94 = .ok (.bipush 7, 2) := by decide +kernel
theorem dX8_joinLine_96 : decode cX8_joinLine 96 = .ok (.iload_n 1, 1) := by decide +kernel
theorem dX8_joinLine_97 : decode cX8_joinLine 97 = .ok (.imul, 1) := by decide +kernel
theorem dX8_joinLine_98 : decode cX8_joinLine 98 = .ok (.iadd, 1) := by decide +kernel
theorem dX8_joinLine_99 : decode cX8_joinLine 99 = .ok (.iconst 2, 1) := by decide +kernel
theorem dX8_joinLine_100 : decode cX8_joinLine 100 = .ok (.iadd, 1) := by decide +kernel
theorem dX8_joinLine_101 : decode cX8_joinLine 101 = .ok (.iconst 0, 1) := by decide +kernel
theorem dX8_joinLine_102 : decode cX8_joinLine 102 = .ok (.sipush 999, 3) := by decide +kernel
theorem dX8_joinLine_105 : decode cX8_joinLine 105 = .ok (.invokevirtual 144, 3) := by decide +kernel
theorem dX8_joinLine_108 : decode cX8_joinLine 108 = .ok (.ireturn, 1) := by decide +kernel
theorem dX8_sizesRead_0 : decode cX8_sizesRead 0 = .ok (.iconst 0, 1) := by decide +kernel
theorem dX8_sizesRead_1 : decode cX8_sizesRead 1 = .ok (.istore_n 2, 1) := by decide +kernel
theorem dX8_sizesRead_2 : decode cX8_sizesRead 2 = .ok (.iconst 0, 1) := by decide +kernel
theorem dX8_sizesRead_3 : decode cX8_sizesRead 3 = .ok (.istore_n 3, 1) := by decide +kernel
theorem dX8_sizesRead_4 : decode cX8_sizesRead 4 = .ok (.iconst 1, 1) := by decide +kernel
theorem dX8_sizesRead_5 : decode cX8_sizesRead 5 = .ok (.istore 4, 2) := by decide +kernel
theorem dX8_sizesRead_7 : decode cX8_sizesRead 7 = .ok (.iload 4, 2) := by decide +kernel
theorem dX8_sizesRead_9 : decode cX8_sizesRead 9 = .ok (.ifCond .eq 90, 3) := by decide +kernel
theorem dX8_sizesRead_12 : decode cX8_sizesRead 12 = .ok (.aload_n 0, 1) := by decide +kernel
theorem dX8_sizesRead_13 : decode cX8_sizesRead 13 = .ok (.getfield 105, 3) := by decide +kernel
theorem dX8_sizesRead_16 : decode cX8_sizesRead 16 = .ok (.iconst 2, 1) := by decide +kernel
theorem dX8_sizesRead_17 : decode cX8_sizesRead 17 = .ok (.if_icmp .eq 7, 3) := by decide +kernel
theorem dX8_sizesRead_20 : decode cX8_sizesRead 20 = .ok (.iload_n 2, 1) := by decide +kernel
theorem dX8_sizesRead_21 : decode cX8_sizesRead 21 = .ok (.ifCond .ne 78, 3) := by decide +kernel
theorem dX8_sizesRead_24 : decode cX8_sizesRead 24 = .ok (.aload_n 0, 1) := by decide +kernel
theorem dX8_sizesRead_25 : decode cX8_sizesRead 25 = .ok (.iconst 1, 1) := by decide +kernel
theorem dX8_sizesRead_26 : decode cX8_sizesRead 26 = .ok (.sipush 9999, 3) := by decide +kernel
theorem dX8_sizesRead_29 : decode cX8_sizesRead 29 = .ok (.invokevirtual 130, 3) := by decide +kernel
theorem dX8_sizesRead_32 : decode cX8_sizesRead 32 = .ok (.ifCond .eq 53, 3) := by decide +kernel
theorem dX8_sizesRead_35 : decode cX8_sizesRead 35 = .ok (.iload_n 2, 1) := by decide +kernel
theorem dX8_sizesRead_36 : decode cX8_sizesRead 36 = .ok (.iconst 4, 1) := by decide +kernel
theorem dX8_sizesRead_37 : decode cX8_sizesRead 37 = .ok (.if_icmp .lt 11, 3) := by decide +kernel
theorem dX8_sizesRead_40 : decode cX8_sizesRead 40 = .ok (.aload_n 0, 1) := by decide +kernel
theorem dX8_sizesRead_41 : decode cX8_sizesRead 41 = .ok (.iconst 5, 1) := by decide +kernel
theorem dX8_sizesRead_42 : decode cX8_sizesRead 42 = .ok (.invokevirtual 123, 3) := by decide +kernel
theorem dX8_sizesRead_45 : decode cX8_sizesRead 45 = .ok (.ifCond .eq 40, 3) := by decide +kernel
theorem dX8_sizesRead_48 : decode cX8_sizesRead 48 = .ok (.aload_n 0, 1) := by decide +kernel
theorem dX8_sizesRead_49 : decode cX8_sizesRead 49 = .ok (.getfield 102, 3) := by decide +kernel
theorem dX8_sizesRead_52 : decode cX8_sizesRead 52 = .ok (.iload_n 3, 1) := by decide +kernel
theorem dX8_sizesRead_53 : decode cX8_sizesRead 53 = .ok (.if_icmp .gt 12, 3) := by decide +kernel
theorem dX8_sizesRead_56 : decode cX8_sizesRead 56 = .ok (.aload_n 0, 1) := by decide +kernel
theorem dX8_sizesRead_57 : decode cX8_sizesRead 57 = .ok (.bipush 6, 2) := by decide +kernel
theorem dX8_sizesRead_59 : decode cX8_sizesRead 59 = .ok (.invokevirtual 123, 3) := by decide +kernel
theorem dX8_sizesRead_62 : decode cX8_sizesRead 62 = .ok (.ifCond .eq 23, 3) := by decide +kernel
theorem dX8_sizesRead_65 : decode cX8_sizesRead 65 = .ok (.aload_n 0, 1) := by decide +kernel
theorem dX8_sizesRead_66 : decode cX8_sizesRead 66 = .ok (.iload_n 1, 1) := by decide +kernel
theorem dX8_sizesRead_67 : decode cX8_sizesRead 67 = .ok (.iconst 3, 1) := by decide +kernel
theorem dX8_sizesRead_68 : decode cX8_sizesRead 68 = .ok (.iadd, 1) := by decide +kernel
theorem dX8_sizesRead_69 : decode cX8_sizesRead 69 = .ok (.iload_n 2, 1) := by decide +kernel
theorem dX8_sizesRead_70 : decode cX8_sizesRead 70 = .ok (.iadd, 1) := by decide +kernel
theorem dX8_sizesRead_71 : decode cX8_sizesRead 71 = .ok (.iconst 1, 1) := by decide +kernel
theorem dX8_sizesRead_72 : decode cX8_sizesRead 72 = .ok (.sipush 9999, 3) := by decide +kernel
theorem dX8_sizesRead_75 : decode cX8_sizesRead 75 = .ok (.invokevirtual 144, 3) := by decide +kernel
theorem dX8_sizesRead_78 : decode cX8_sizesRead 78 = .ok (.ifCond .eq 7, 3) := by decide +kernel
theorem dX8_sizesRead_81 : decode cX8_sizesRead 81 = .ok (.iconst 1, 1) := by decide +kernel
theorem dX8_sizesRead_82 : decode cX8_sizesRead 82 = .ok (.goto 4, 3) := by decide +kernel
theorem dX8_sizesRead_85 : decode cX8_sizesRead 85 = .ok (.iconst 0, 1) := by decide +kernel
theorem dX8_sizesRead_86 : decode cX8_sizesRead 86 = .ok (.istore 4, 2) := by decide +kernel
theorem dX8_sizesRead_88 : decode cX8_sizesRead 88 = .ok (.aload_n 0, 1) := by decide +kernel
theorem dX8_sizesRead_89 : decode cX8_sizesRead 89 = .ok (.getfield 134, 3) := by decide +kernel
theorem dX8_sizesRead_92 : decode cX8_sizesRead 92 = .ok (.istore_n 3, 1) := by decide +kernel
theorem dX8_sizesRead_93 : decode cX8_sizesRead 93 = .ok (.iinc 2 1, 3) := by decide +kernel
theorem dX8_sizesRead_96 : decode cX8_sizesRead 96 = .ok (.goto (-89), 3) := by decide +kernel
theorem dX8_sizesRead_99 : decode cX8_sizesRead 99 = .ok (.aload_n 0, 1) := by decide +kernel
theorem dX8_sizesRead_100 : decode cX8_sizesRead 100 = .ok (.getfield 28, 3) := by decide +kernel
theorem dX8_sizesRead_103 : decode cX8_sizesRead 103 = .ok (.iload_n 1, 1) := by decide +kernel
theorem dX8_sizesRead_104 : decode cX8_sizesRead 104 = .ok (.iconst 1, 1) := by decide +kernel
theorem dX8_sizesRead_105 : decode cX8_sizesRead 105 = .ok (.iadd, 1) := by decide +kernel
theorem dX8_sizesRead_106 : decode cX8_sizesRead 106 = .ok (.iload_n 2, 1) := by decide +kernel
theorem dX8_sizesRead_107 : decode cX8_sizesRead 107 = .ok (.iastore, 1) := by decide +kernel
theorem dX8_sizesRead_108 : decode cX8_sizesRead 108 = .ok (.iload 4, 2) := by decide +kernel
theorem dX8_sizesRead_110 : decode cX8_sizesRead 110 = .ok (.ireturn, 1) := by decide +kernel
theorem dX8_playerLine_0 : decode cX8_playerLine 0 = .ok (.aload_n 0, 1) := by decide +kernel
theorem dX8_playerLine_1 : decode cX8_playerLine 1 = .ok (.getfield 28, 3) := by decide +kernel
theorem dX8_playerLine_4 : decode cX8_playerLine 4 = .ok (.iconst 4, 1) := by decide +kernel
theorem dX8_playerLine_5 : decode cX8_playerLine 5 = .ok (.iaload, 1) := by decide +kernel
theorem dX8_playerLine_6 : decode cX8_playerLine 6 = .ok (.istore_n 1, 1) := by decide +kernel
theorem dX8_playerLine_7 : decode cX8_playerLine 7 = .ok (.aload_n 0, 1) := by decide +kernel
theorem dX8_playerLine_8 : decode cX8_playerLine 8 = .ok (.iconst 5, 1) := by decide +kernel
theorem dX8_playerLine_9 : decode cX8_playerLine 9 = .ok (.iload_n 1, 1) := by decide +kernel
theorem dX8_playerLine_10 : decode cX8_playerLine 10 = .ok (.iconst 4, 1) := by decide +kernel
theorem dX8_playerLine_11 : decode cX8_playerLine 11 = .ok (.if_icmp .ge 7, 3) := by decide +kernel
theorem dX8_playerLine_14 : decode cX8_playerLine 14 = .ok (.iconst 1, 1) := by decide +kernel
theorem dX8_playerLine_15 : decode cX8_playerLine 15 = .ok (.goto 4, 3) := by decide +kernel
theorem dX8_playerLine_18 : decode cX8_playerLine 18 = .ok (.iconst 0, 1) := by decide +kernel
theorem dX8_playerLine_19 : decode cX8_playerLine 19 = .ok (.invokevirtual 140, 3) := by decide +kernel
theorem dX8_playerLine_22 : decode cX8_playerLine 22 = .ok (.ifCond .ne 5, 3) := by decide +kernel
theorem dX8_playerLine_25 : decode cX8_playerLine 25 = .ok (.iconst 0, 1) := by decide +kernel
theorem dX8_playerLine_26 : decode cX8_playerLine 26 = .ok (.ireturn, 1) := by decide +kernel
theorem dX8_playerLine_27 : decode cX8_playerLine 27 = .ok (.aload_n 0, 1) := by decide +kernel
theorem dX8_playerLine_28 : decode cX8_playerLine 28 = .ok (.getfield 105, 3) := by decide +kernel
theorem dX8_playerLine_31 : decode cX8_playerLine 31 = .ok (.iconst 1, 1) := by decide +kernel
theorem dX8_playerLine_32 : decode cX8_playerLine 32 = .ok (.if_icmp .eq 9, 3) := by decide +kernel
theorem dX8_playerLine_35 : decode cX8_playerLine 35 = .ok (.aload_n 0, 1) := by decide +kernel
theorem dX8_playerLine_36 : decode cX8_playerLine 36 = .ok (.iconst 1, 1) := by decide +kernel
theorem dX8_playerLine_37 : decode cX8_playerLine 37 = .ok (.invokevirtual 123, 3) := by decide +kernel
theorem dX8_playerLine_40 : decode cX8_playerLine 40 = .ok (.ireturn, 1) := by decide +kernel
theorem dX8_playerLine_41 : decode cX8_playerLine 41 = .ok (.aload_n 0, 1) := by decide +kernel
theorem dX8_playerLine_42 : decode cX8_playerLine 42 = .ok (.getfield 84, 3) := by decide +kernel
theorem dX8_playerLine_45 : decode cX8_playerLine 45 = .ok (.lstore_n 2, 1) := by decide +kernel
theorem dX8_playerLine_46 : decode cX8_playerLine 46 = .ok (.aload_n 0, 1) := by decide +kernel
theorem dX8_playerLine_47 : decode cX8_playerLine 47 = .ok (.iconst 2, 1) := by decide +kernel
theorem dX8_playerLine_48 : decode cX8_playerLine 48 = .ok (.aload_n 0, 1) := by decide +kernel
theorem dX8_playerLine_49 : decode cX8_playerLine 49 = .ok (.getfield 40, 3) := by decide +kernel
theorem dX8_playerLine_52 : decode cX8_playerLine 52 = .ok (.iload_n 1, 1) := by decide +kernel
theorem dX8_playerLine_53 : decode cX8_playerLine 53 = .ok (.lload_n 2, 1) := by decide +kernel
theorem dX8_playerLine_54 : decode cX8_playerLine 54 = .ok (.invokestatic 151, 3) := by decide +kernel
theorem dX8_playerLine_57 : decode cX8_playerLine 57 = .ok (.iconst (-1), 1) := by decide +kernel
theorem dX8_playerLine_58 : decode cX8_playerLine 58 = .ok (.if_icmp .ne 7, 3) := by decide +kernel
theorem dX8_playerLine_61 : decode cX8_playerLine 61 = .ok (.iconst 1, 1) := by decide +kernel
theorem dX8_playerLine_62 : decode cX8_playerLine 62 = .ok (.goto 4, 3) := by decide +kernel
theorem dX8_playerLine_65 : decode cX8_playerLine 65 = .ok (.iconst 0, 1) := by decide +kernel
theorem dX8_playerLine_66 : decode cX8_playerLine 66 = .ok (.invokevirtual 140, 3) := by decide +kernel
theorem dX8_playerLine_69 : decode cX8_playerLine 69 = .ok (.ifCond .ne 5, 3) := by decide +kernel
theorem dX8_playerLine_72 : decode cX8_playerLine 72 = .ok (.iconst 0, 1) := by decide +kernel
theorem dX8_playerLine_73 : decode cX8_playerLine 73 = .ok (.ireturn, 1) := by decide +kernel
theorem dX8_playerLine_74 : decode cX8_playerLine 74 = .ok (.aload_n 0, 1) := by decide +kernel
theorem dX8_playerLine_75 : decode cX8_playerLine 75 = .ok (.ldc 158, 2) := by decide +kernel
theorem dX8_playerLine_77 : decode cX8_playerLine 77 = .ok (.invokevirtual 160, 3) := by decide +kernel
theorem dX8_playerLine_80 : decode cX8_playerLine 80 = .ok (.ifCond .eq 7, 3) := by decide +kernel
theorem dX8_playerLine_83 : decode cX8_playerLine 83 = .ok (.iconst 0, 1) := by decide +kernel
theorem dX8_playerLine_84 : decode cX8_playerLine 84 = .ok (.goto 43, 3) := by decide +kernel
theorem dX8_playerLine_87 : decode cX8_playerLine 87 = .ok (.aload_n 0, 1) := by decide +kernel
theorem dX8_playerLine_88 : decode cX8_playerLine 88 = .ok (.ldc 164, 2) := by decide +kernel
theorem dX8_playerLine_90 : decode cX8_playerLine 90 = .ok (.invokevirtual 160, 3) := by decide +kernel
theorem dX8_playerLine_93 : decode cX8_playerLine 93 = .ok (.ifCond .eq 7, 3) := by decide +kernel
theorem dX8_playerLine_96 : decode cX8_playerLine 96 = .ok (.iconst 1, 1) := by decide +kernel
theorem dX8_playerLine_97 : decode cX8_playerLine 97 = .ok (.goto 30, 3) := by decide +kernel
theorem dX8_playerLine_100 : decode cX8_playerLine 100 = .ok (.aload_n 0, 1) := by decide +kernel
theorem dX8_playerLine_101 : decode cX8_playerLine 101 = .ok (.ldc 166, 2) := by decide +kernel
theorem dX8_playerLine_103 : decode cX8_playerLine 103 = .ok (.invokevirtual 160, 3) := by decide +kernel
theorem dX8_playerLine_106 : decode cX8_playerLine 106 = .ok (.ifCond .eq 7, 3) := by decide +kernel
theorem dX8_playerLine_109 : decode cX8_playerLine 109 = .ok (.iconst 2, 1) := by decide +kernel
theorem dX8_playerLine_110 : decode cX8_playerLine 110 = .ok (.goto 17, 3) := by decide +kernel
theorem dX8_playerLine_113 : decode cX8_playerLine 113 = .ok (.aload_n 0, 1) := by decide +kernel
theorem dX8_playerLine_114 : decode cX8_playerLine 114 = .ok (.ldc 168, 2) := by decide +kernel
theorem dX8_playerLine_116 : decode cX8_playerLine 116 = .ok (.invokevirtual 160, 3) := by decide +kernel
theorem dX8_playerLine_119 : decode cX8_playerLine 119 = .ok (.ifCond .eq 7, 3) := by decide +kernel
theorem dX8_playerLine_122 : decode cX8_playerLine 122 = .ok (.iconst 3, 1) := by decide +kernel
theorem dX8_playerLine_123 : decode cX8_playerLine 123 = .ok (.goto 4, 3) := by decide +kernel
theorem dX8_playerLine_126 : decode cX8_playerLine 126 = .ok (.iconst (-1), 1) := by decide +kernel
theorem dX8_playerLine_127 : decode cX8_playerLine 127 = .ok (.istore 4, 2) := by decide +kernel
theorem dX8_playerLine_129 : decode cX8_playerLine 129 = .ok (.bipush 19, 2) := by decide +kernel
theorem dX8_playerLine_131 : decode cX8_playerLine 131 = .ok (.bipush 7, 2) := by decide +kernel
theorem dX8_playerLine_133 : decode cX8_playerLine 133 = .ok (.iload_n 1, 1) := by decide +kernel
theorem dX8_playerLine_134 : decode cX8_playerLine 134 = .ok (.imul, 1) := by decide +kernel
theorem dX8_playerLine_135 : decode cX8_playerLine 135 = .ok (.iadd, 1) := by decide +kernel
theorem dX8_playerLine_136 : decode cX8_playerLine 136 = .ok (.istore 5, 2) := by decide +kernel
theorem dX8_playerLine_138 : decode cX8_playerLine 138 = .ok (.aload_n 0, 1) := by decide +kernel
theorem dX8_playerLine_139 : decode cX8_playerLine 139 = .ok (.iconst 1, 1) := by decide +kernel
theorem dX8_playerLine_140 : decode cX8_playerLine 140 = .ok (.iload 4, 2) := by decide +kernel
theorem dX8_playerLine_142 : decode cX8_playerLine 142 = .ok (.iconst (-1), 1) := by decide +kernel
theorem dX8_playerLine_143 : decode cX8_playerLine 143 = .ok (.if_icmp .eq 7, 3) := by decide +kernel
theorem dX8_playerLine_146 : decode cX8_playerLine 146 = .ok (.iconst 1, 1) := by decide +kernel
theorem dX8_playerLine_147 : decode cX8_playerLine 147 = .ok (.goto 4, 3) := by decide +kernel
theorem dX8_playerLine_150 : decode cX8_playerLine 150 = .ok (.iconst 0, 1) := by decide +kernel
theorem dX8_playerLine_151 : decode cX8_playerLine 151 = .ok (.invokevirtual 140, 3) := by decide +kernel
theorem dX8_playerLine_154 : decode cX8_playerLine 154 = .ok (.ifCond .eq 27, 3) := by decide +kernel
theorem dX8_playerLine_157 : decode cX8_playerLine 157 = .ok (.aload_n 0, 1) := by decide +kernel
theorem dX8_playerLine_158 : decode cX8_playerLine 158 = .ok (.iload 5, 2) := by decide +kernel
theorem dX8_playerLine_160 : decode cX8_playerLine 160 = .ok (.iconst 0, 1) := by decide +kernel
theorem dX8_playerLine_161 : decode cX8_playerLine 161 = .ok (.iadd, 1) := by decide +kernel
theorem dX8_playerLine_162 : decode cX8_playerLine 162 = .ok (.iconst 1, 1) := by decide +kernel
theorem dX8_playerLine_163 : decode cX8_playerLine 163 = .ok (.bipush 30, 2) := by decide +kernel
theorem dX8_playerLine_165 : decode cX8_playerLine 165 = .ok (.invokevirtual 144, 3) := by decide +kernel
theorem dX8_playerLine_168 : decode cX8_playerLine 168 = .ok (.ifCond .eq 13, 3) := by decide +kernel
theorem dX8_playerLine_171 : decode cX8_playerLine 171 = .ok (.aload_n 0, 1) := by decide +kernel
theorem dX8_playerLine_172 : decode cX8_playerLine 172 = .ok (.iconst 1, 1) := by decide +kernel
theorem dX8_playerLine_173 : decode cX8_playerLine 173 = .ok (.bipush 9, 2) := by decide +kernel
theorem dX8_playerLine_175 : decode cX8_playerLine 175 = .ok (.invokevirtual 137, 3) := by decide +kernel
theorem dX8_playerLine_178 : decode cX8_playerLine 178 = .ok (.ifCond .ne 5, 3) := by decide +kernel
theorem dX8_playerLine_181 : decode cX8_playerLine 181 = .ok (.iconst 0, 1) := by decide +kernel
theorem dX8_playerLine_182 : decode cX8_playerLine 182 = .ok (.ireturn, 1) := by decide +kernel
theorem dX8_playerLine_183 : decode cX8_playerLine 183 = .ok (.aload_n 0, 1) := by decide +kernel
theorem dX8_playerLine_184 : decode cX8_playerLine 184 = .ok (.getfield 37, 3) := by decide +kernel
theorem dX8_playerLine_187 : decode cX8_playerLine 187 = .ok (.iload_n 1, 1) := by decide +kernel
theorem dX8_playerLine_188 : decode cX8_playerLine 188 = .ok (.aload_n 0, 1) := by decide +kernel
theorem dX8_playerLine_189 : decode cX8_playerLine 189 = .ok (.getfield 134, 3) := by decide +kernel
theorem dX8_playerLine_192 : decode cX8_playerLine 192 = .ok (.iastore, 1) := by decide +kernel
theorem dX8_playerLine_193 : decode cX8_playerLine 193 = .ok (.aload_n 0, 1) := by decide +kernel
theorem dX8_playerLine_194 : decode cX8_playerLine 194 = .ok (.iload 5, 2) := by decide +kernel
theorem dX8_playerLine_196 : decode cX8_playerLine 196 = .ok (.invokevirtual 170, 3) := by decide +kernel
theorem dX8_playerLine_199 : decode cX8_playerLine 199 = .ok (.ifCond .ne 5, 3) := by decide +kernel
theorem dX8_playerLine_202 : decode cX8_playerLine 202 = .ok (.iconst 0, 1) := by decide +kernel
theorem dX8_playerLine_203 : decode cX8_playerLine 203 = .ok (.ireturn, 1) := by decide +kernel
theorem dX8_playerLine_204 : decode cX8_playerLine 204 = .ok (.aload_n 0, 1) := by decide +kernel
theorem dX8_playerLine_205 : decode cX8_playerLine 205 = .ok (.getfield 40, 3) := by decide +kernel
theorem dX8_playerLine_208 : decode cX8_playerLine 208 = .ok (.iload_n 1, 1) := by decide +kernel
theorem dX8_playerLine_209 : decode cX8_playerLine 209 = .ok (.lload_n 2, 1) := by decide +kernel
theorem dX8_playerLine_210 : decode cX8_playerLine 210 = .ok (.lastore, 1) := by decide +kernel
theorem dX8_playerLine_211 : decode cX8_playerLine 211 = .ok (.aload_n 0, 1) := by decide +kernel
theorem dX8_playerLine_212 : decode cX8_playerLine 212 = .ok (.getfield 34, 3) := by decide +kernel
theorem dX8_playerLine_215 : decode cX8_playerLine 215 = .ok (.iload_n 1, 1) := by decide +kernel
theorem dX8_playerLine_216 : decode cX8_playerLine 216 = .ok (.iload 4, 2) := by decide +kernel
theorem dX8_playerLine_218 : decode cX8_playerLine 218 = .ok (.iastore, 1) := by decide +kernel
theorem dX8_playerLine_219 : decode cX8_playerLine 219 = .ok (.aload_n 0, 1) := by decide +kernel
theorem dX8_playerLine_220 : decode cX8_playerLine 220 = .ok (.getfield 28, 3) := by decide +kernel
theorem dX8_playerLine_223 : decode cX8_playerLine 223 = .ok (.iconst 4, 1) := by decide +kernel
theorem dX8_playerLine_224 : decode cX8_playerLine 224 = .ok (.dup2, 1) := by decide +kernel
theorem dX8_playerLine_225 : decode cX8_playerLine 225 = .ok (.iaload, 1) := by decide +kernel
theorem dX8_playerLine_226 : decode cX8_playerLine 226 = .ok (.iconst 1, 1) := by decide +kernel
theorem dX8_playerLine_227 : decode cX8_playerLine 227 = .ok (.iadd, 1) := by decide +kernel
theorem dX8_playerLine_228 : decode cX8_playerLine 228 = .ok (.iastore, 1) := by decide +kernel
theorem dX8_playerLine_229 : decode cX8_playerLine 229 = .ok (.iconst 1, 1) := by decide +kernel
theorem dX8_playerLine_230 : decode cX8_playerLine 230 = .ok (.ireturn, 1) := by decide +kernel
theorem dX8_statement_0 : decode cX8_statement 0 = .ok (.aload_n 0, 1) := by decide +kernel
theorem dX8_statement_1 : decode cX8_statement 1 = .ok (.ldc 173, 2) := by decide +kernel
theorem dX8_statement_3 : decode cX8_statement 3 = .ok (.invokevirtual 160, 3) := by decide +kernel
theorem dX8_statement_6 : decode cX8_statement 6 = .ok (.ifCond .eq 8, 3) := by decide +kernel
theorem dX8_statement_9 : decode cX8_statement 9 = .ok (.aload_n 0, 1) := by decide +kernel
theorem dX8_statement_10 : decode cX8_statement 10 = .ok (.invokevirtual 175, 3) := by decide +kernel
theorem dX8_statement_13 : decode cX8_statement 13 = .ok (.ireturn, 1) := by decide +kernel
theorem dX8_statement_14 : decode cX8_statement 14 = .ok (.aload_n 0, 1) := by decide +kernel
theorem dX8_statement_15 : decode cX8_statement 15 = .ok (.ldc 179, 2) := by decide +kernel
theorem dX8_statement_17 : decode cX8_statement 17 = .ok (.invokevirtual 160, 3) := by decide +kernel
theorem dX8_statement_20 : decode cX8_statement 20 = .ok (.ifCond .eq 8, 3) := by decide +kernel
theorem dX8_statement_23 : decode cX8_statement 23 = .ok (.aload_n 0, 1) := by decide +kernel
theorem dX8_statement_24 : decode cX8_statement 24 = .ok (.invokevirtual 181, 3) := by decide +kernel
theorem dX8_statement_27 : decode cX8_statement 27 = .ok (.ireturn, 1) := by decide +kernel
theorem dX8_statement_28 : decode cX8_statement 28 = .ok (.aload_n 0, 1) := by decide +kernel
theorem dX8_statement_29 : decode cX8_statement 29 = .ok (.ldc 184, 2) := by decide +kernel
theorem dX8_statement_31 : decode cX8_statement 31 = .ok (.invokevirtual 160, 3) := by decide +kernel
theorem dX8_statement_34 : decode cX8_statement 34 = .ok (.ifCond .eq 10, 3) := by decide +kernel
theorem dX8_statement_37 : decode cX8_statement 37 = .ok (.aload_n 0, 1) := by decide +kernel
theorem dX8_statement_38 : decode cX8_statement 38 = .ok (.invokevirtual 186, 3) := by decide +kernel
theorem dX8_statement_41 : decode cX8_statement 41 = .ok (.goto 24, 3) := by decide +kernel
theorem dX8_statement_44 : decode cX8_statement 44 = .ok (.aload_n 0, 1) := by decide +kernel
theorem dX8_statement_45 : decode cX8_statement 45 = .ok (.ldc 189, 2) := by decide +kernel
theorem dX8_statement_47 : decode cX8_statement 47 = .ok (.invokevirtual 160, 3) := by decide +kernel
theorem dX8_statement_50 : decode cX8_statement 50 = .ok (.ifCond .eq 10, 3) := by decide +kernel
theorem dX8_statement_53 : decode cX8_statement 53 = .ok (.aload_n 0, 1) := by decide +kernel
theorem dX8_statement_54 : decode cX8_statement 54 = .ok (.invokevirtual 191, 3) := by decide +kernel
theorem dX8_statement_57 : decode cX8_statement 57 = .ok (.goto 8, 3) := by decide +kernel
theorem dX8_statement_60 : decode cX8_statement 60 = .ok (.aload_n 0, 1) := by decide +kernel
theorem dX8_statement_61 : decode cX8_statement 61 = .ok (.iconst 1, 1) := by decide +kernel
theorem dX8_statement_62 : decode cX8_statement 62 = .ok (.invokevirtual 123, 3) := by decide +kernel
theorem dX8_statement_65 : decode cX8_statement 65 = .ok (.ireturn, 1) := by decide +kernel
theorem dX8_clearsRead_0 : decode cX8_clearsRead 0 = .ok (.iconst 0, 1) := by decide +kernel
theorem dX8_clearsRead_1 : decode cX8_clearsRead 1 = .ok (.istore_n 1, 1) := by decide +kernel
theorem dX8_clearsRead_2 : decode cX8_clearsRead 2 = .ok (.iload_n 1, 1) := by decide +kernel
theorem dX8_clearsRead_3 : decode cX8_clearsRead 3 = .ok (.bipush 47, 2) := by decide +kernel
theorem dX8_clearsRead_5 : decode cX8_clearsRead 5 = .ok (.if_icmp .ge 16, 3) := by decide +kernel
theorem dX8_clearsRead_8 : decode cX8_clearsRead 8 = .ok (.aload_n 0, 1) := by decide +kernel
theorem dX8_clearsRead_9 : decode cX8_clearsRead 9 = .ok (.getfield 28, 3) := by decide +kernel
theorem dX8_clearsRead_12 : decode cX8_clearsRead 12 = .ok (.iload_n 1, 1) := by decide +kernel
theorem dX8_clearsRead_13 : decode cX8_clearsRead 13 = .ok (.iconst 0, 1) := by decide +kernel
theorem dX8_clearsRead_14 : decode cX8_clearsRead 14 = .ok (.iastore, 1) := by decide +kernel
theorem dX8_clearsRead_15 : decode cX8_clearsRead 15 = .ok (.iinc 1 1, 3) := by decide +kernel
theorem dX8_clearsRead_18 : decode cX8_clearsRead 18 = .ok (.goto (-16), 3) := by decide +kernel
theorem dX8_clearsRead_21 : decode cX8_clearsRead 21 = .ok (.aload_n 0, 1) := by decide +kernel
theorem dX8_clearsRead_22 : decode cX8_clearsRead 22 = .ok (.iconst 0, 1) := by decide +kernel
theorem dX8_clearsRead_23 : decode cX8_clearsRead 23 = .ok (.putfield 155, 3) := by decide +kernel
theorem dX8_clearsRead_26 : decode cX8_clearsRead 26 = .ok (.aload_n 0, 1) := by decide +kernel
theorem dX8_clearsRead_27 : decode cX8_clearsRead 27 = .ok (.iconst 0, 1) := by decide +kernel
theorem dX8_clearsRead_28 : decode cX8_clearsRead 28 = .ok (.putfield 147, 3) := by decide +kernel
theorem dX8_clearsRead_31 : decode cX8_clearsRead 31 = .ok (.return_, 1) := by decide +kernel
theorem dX8_parse_0 : decode cX8_parse 0 = .ok (.aload_n 0, 1) := by decide +kernel
theorem dX8_parse_1 : decode cX8_parse 1 = .ok (.iconst 0, 1) := by decide +kernel
theorem dX8_parse_2 : decode cX8_parse 2 = .ok (.putfield 71, 3) := by decide +kernel
theorem dX8_parse_5 : decode cX8_parse 5 = .ok (.aload_n 0, 1) := by decide +kernel
theorem dX8_parse_6 : decode cX8_parse 6 = .ok (.iload_n 1, 1) := by decide +kernel
theorem dX8_parse_7 : decode cX8_parse 7 = .ok (.iconst 0, 1) := by decide +kernel
theorem dX8_parse_8 : decode cX8_parse 8 = .ok (.aload_n 0, 1) := by decide +kernel
theorem dX8_parse_9 : decode cX8_parse 9 = .ok (.getfield 74, 3) := by decide +kernel
theorem dX8_parse_12 : decode cX8_parse 12 = .ok (.invokestatic 95, 3) := by decide +kernel
theorem dX8_parse_15 : decode cX8_parse 15 = .ok (.ifCond .ne 7, 3) := by decide +kernel
theorem dX8_parse_18 : decode cX8_parse 18 = .ok (.iconst 1, 1) := by decide +kernel
theorem dX8_parse_19 : decode cX8_parse 19 = .ok (.goto 4, 3) := by decide +kernel
theorem dX8_parse_22 : decode cX8_parse 22 = .ok (.iconst 0, 1) := by decide +kernel
theorem dX8_parse_23 : decode cX8_parse 23 = .ok (.iconst 1, 1) := by decide +kernel
theorem dX8_parse_24 : decode cX8_parse 24 = .ok (.invokevirtual 194, 3) := by decide +kernel
theorem dX8_parse_27 : decode cX8_parse 27 = .ok (.ifCond .eq 5, 3) := by decide +kernel
theorem dX8_parse_30 : decode cX8_parse 30 = .ok (.iconst 0, 1) := by decide +kernel
theorem dX8_parse_31 : decode cX8_parse 31 = .ok (.ireturn, 1) := by decide +kernel
theorem dX8_parse_32 : decode cX8_parse 32 = .ok (.aload_n 0, 1) := by decide +kernel
theorem dX8_parse_33 : decode cX8_parse 33 = .ok (.iload_n 1, 1) := by decide +kernel
theorem dX8_parse_34 : decode cX8_parse 34 = .ok (.putfield 81, 3) := by decide +kernel
theorem dX8_parse_37 : decode cX8_parse 37 = .ok (.aload_n 0, 1) := by decide +kernel
theorem dX8_parse_38 : decode cX8_parse 38 = .ok (.iconst 0, 1) := by decide +kernel
theorem dX8_parse_39 : decode cX8_parse 39 = .ok (.putfield 74, 3) := by decide +kernel
theorem dX8_parse_42 : decode cX8_parse 42 = .ok (.aload_n 0, 1) := by decide +kernel
theorem dX8_parse_43 : decode cX8_parse 43 = .ok (.iconst 0, 1) := by decide +kernel
theorem dX8_parse_44 : decode cX8_parse 44 = .ok (.putfield 88, 3) := by decide +kernel
theorem dX8_parse_47 : decode cX8_parse 47 = .ok (.aload_n 0, 1) := by decide +kernel
theorem dX8_parse_48 : decode cX8_parse 48 = .ok (.iconst 0, 1) := by decide +kernel
theorem dX8_parse_49 : decode cX8_parse 49 = .ok (.putfield 120, 3) := by decide +kernel
theorem dX8_parse_52 : decode cX8_parse 52 = .ok (.aload_n 0, 1) := by decide +kernel
theorem dX8_parse_53 : decode cX8_parse 53 = .ok (.iconst (-1), 1) := by decide +kernel
theorem dX8_parse_54 : decode cX8_parse 54 = .ok (.putfield 24, 3) := by decide +kernel
theorem dX8_parse_57 : decode cX8_parse 57 = .ok (.aload_n 0, 1) := by decide +kernel
theorem dX8_parse_58 : decode cX8_parse 58 = .ok (.invokevirtual 65, 3) := by decide +kernel
theorem dX8_parse_61 : decode cX8_parse 61 = .ok (.aload_n 0, 1) := by decide +kernel
theorem dX8_parse_62 : decode cX8_parse 62 = .ok (.invokevirtual 127, 3) := by decide +kernel
theorem dX8_parse_65 : decode cX8_parse 65 = .ok (.aload_n 0, 1) := by decide +kernel
theorem dX8_parse_66 : decode cX8_parse 66 = .ok (.iconst 1, 1) := by decide +kernel
theorem dX8_parse_67 : decode cX8_parse 67 = .ok (.aload_n 0, 1) := by decide +kernel
theorem dX8_parse_68 : decode cX8_parse 68 = .ok (.ldc 198, 2) := by decide +kernel
theorem dX8_parse_70 : decode cX8_parse 70 = .ok (.invokevirtual 160, 3) := by decide +kernel
theorem dX8_parse_73 : decode cX8_parse 73 = .ok (.invokevirtual 140, 3) := by decide +kernel
theorem dX8_parse_76 : decode cX8_parse 76 = .ok (.ifCond .eq 60, 3) := by decide +kernel
theorem dX8_parse_79 : decode cX8_parse 79 = .ok (.aload_n 0, 1) := by decide +kernel
theorem dX8_parse_80 : decode cX8_parse 80 = .ok (.iconst 0, 1) := by decide +kernel
theorem dX8_parse_81 : decode cX8_parse 81 = .ok (.iconst 1, 1) := by decide +kernel
theorem dX8_parse_82 : decode cX8_parse 82 = .ok (.bipush 20, 2) := by decide +kernel
theorem dX8_parse_84 : decode cX8_parse 84 = .ok (.invokevirtual 144, 3) := by decide +kernel
theorem dX8_parse_87 : decode cX8_parse 87 = .ok (.ifCond .eq 49, 3) := by decide +kernel
theorem dX8_parse_90 : decode cX8_parse 90 = .ok (.aload_n 0, 1) := by decide +kernel
theorem dX8_parse_91 : decode cX8_parse 91 = .ok (.iconst 1, 1) := by decide +kernel
theorem dX8_parse_92 : decode cX8_parse 92 = .ok (.iconst 1, 1) := by decide +kernel
theorem dX8_parse_93 : decode cX8_parse 93 = .ok (.bipush 60, 2) := by decide +kernel
theorem dX8_parse_95 : decode cX8_parse 95 = .ok (.invokevirtual 144, 3) := by decide +kernel
theorem dX8_parse_98 : decode cX8_parse 98 = .ok (.ifCond .eq 38, 3) := by decide +kernel
theorem dX8_parse_101 : decode cX8_parse 101 = .ok (.aload_n 0, 1) := by decide +kernel
theorem dX8_parse_102 : decode cX8_parse 102 = .ok (.iconst 2, 1) := by decide +kernel
theorem dX8_parse_103 : decode cX8_parse 103 = .ok (.iconst 1, 1) := by decide +kernel
theorem dX8_parse_104 : decode cX8_parse 104 = .ok (.sipush 200, 3) := by decide +kernel
theorem dX8_parse_107 : decode cX8_parse 107 = .ok (.invokevirtual 144, 3) := by decide +kernel
theorem dX8_parse_110 : decode cX8_parse 110 = .ok (.ifCond .eq 26, 3) := by decide +kernel
theorem dX8_parse_113 : decode cX8_parse 113 = .ok (.aload_n 0, 1) := by decide +kernel
theorem dX8_parse_114 : decode cX8_parse 114 = .ok (.iconst 3, 1) := by decide +kernel
theorem dX8_parse_115 : decode cX8_parse 115 = .ok (.bipush 10, 2) := by decide +kernel
theorem dX8_parse_117 : decode cX8_parse 117 = .ok (.bipush 100, 2) := by decide +kernel
theorem dX8_parse_119 : decode cX8_parse 119 = .ok (.invokevirtual 144, 3) := by decide +kernel
theorem dX8_parse_122 : decode cX8_parse 122 = .ok (.ifCond .eq 14, 3) := by decide +kernel
theorem dX8_parse_125 : decode cX8_parse 125 = .ok (.aload_n 0, 1) := by decide +kernel
theorem dX8_parse_126 : decode cX8_parse 126 = .ok (.invokevirtual 200, 3) := by decide +kernel
theorem dX8_parse_129 : decode cX8_parse 129 = .ok (.ifCond .eq 7, 3) := by decide +kernel
theorem dX8_parse_132 : decode cX8_parse 132 = .ok (.iconst 1, 1) := by decide +kernel
theorem dX8_parse_133 : decode cX8_parse 133 = .ok (.goto 4, 3) := by decide +kernel
theorem dX8_parse_136 : decode cX8_parse 136 = .ok (.iconst 0, 1) := by decide +kernel
theorem dX8_parse_137 : decode cX8_parse 137 = .ok (.istore_n 2, 1) := by decide +kernel
theorem dX8_parse_138 : decode cX8_parse 138 = .ok (.iload_n 2, 1) := by decide +kernel
theorem dX8_parse_139 : decode cX8_parse 139 = .ok (.ifCond .eq 33, 3) := by decide +kernel
theorem dX8_parse_142 : decode cX8_parse 142 = .ok (.aload_n 0, 1) := by decide +kernel
theorem dX8_parse_143 : decode cX8_parse 143 = .ok (.getfield 105, 3) := by decide +kernel
theorem dX8_parse_146 : decode cX8_parse 146 = .ok (.ifCond .eq 26, 3) := by decide +kernel
theorem dX8_parse_149 : decode cX8_parse 149 = .ok (.aload_n 0, 1) := by decide +kernel
theorem dX8_parse_150 : decode cX8_parse 150 = .ok (.invokevirtual 203, 3) := by decide +kernel
theorem dX8_parse_153 : decode cX8_parse 153 = .ok (.ifCond .eq 14, 3) := by decide +kernel
theorem dX8_parse_156 : decode cX8_parse 156 = .ok (.aload_n 0, 1) := by decide +kernel
theorem dX8_parse_157 : decode cX8_parse 157 = .ok (.invokevirtual 200, 3) := by decide +kernel
theorem dX8_parse_160 : decode cX8_parse 160 = .ok (.ifCond .eq 7, 3) := by decide +kernel
theorem dX8_parse_163 : decode cX8_parse 163 = .ok (.iconst 1, 1) := by decide +kernel
theorem dX8_parse_164 : decode cX8_parse 164 = .ok (.goto 4, 3) := by decide +kernel
theorem dX8_parse_167 : decode cX8_parse 167 = .ok (.iconst 0, 1) := by decide +kernel
theorem dX8_parse_168 : decode cX8_parse 168 = .ok (.istore_n 2, 1) := by decide +kernel
theorem dX8_parse_169 : decode cX8_parse 169 = .ok (.goto (-31), 3) := by decide +kernel
theorem dX8_parse_172 : decode cX8_parse 172 = .ok (.iload_n 2, 1) := by decide +kernel
theorem dX8_parse_173 : decode cX8_parse 173 = .ok (.ifCond .ne 8, 3) := by decide +kernel
theorem dX8_parse_176 : decode cX8_parse 176 = .ok (.aload_n 0, 1) := by decide +kernel
theorem dX8_parse_177 : decode cX8_parse 177 = .ok (.getfield 120, 3) := by decide +kernel
theorem dX8_parse_180 : decode cX8_parse 180 = .ok (.ireturn, 1) := by decide +kernel
theorem dX8_parse_181 : decode cX8_parse 181 = .ok (.aload_n 0, 1) := by decide +kernel
theorem dX8_parse_182 : decode cX8_parse 182 = .ok (.invokevirtual 68, 3) := by decide +kernel
theorem dX8_parse_185 : decode cX8_parse 185 = .ok (.iconst 0, 1) := by decide +kernel
theorem dX8_parse_186 : decode cX8_parse 186 = .ok (.ireturn, 1) := by decide +kernel
theorem dX8_begins_0 : decode cX8_begins 0 = .ok (.iconst 0, 1) := by decide +kernel
theorem dX8_begins_1 : decode cX8_begins 1 = .ok (.istore_n 1, 1) := by decide +kernel
theorem dX8_begins_2 : decode cX8_begins 2 = .ok (.iload_n 1, 1) := by decide +kernel
theorem dX8_begins_3 : decode cX8_begins 3 = .ok (.bipush 47, 2) := by decide +kernel
theorem dX8_begins_5 : decode cX8_begins 5 = .ok (.if_icmp .ge 21, 3) := by decide +kernel
theorem dX8_begins_8 : decode cX8_begins 8 = .ok (.aload_n 0, 1) := by decide +kernel
theorem dX8_begins_9 : decode cX8_begins 9 = .ok (.getfield 7, 3) := by decide +kernel
theorem dX8_begins_12 : decode cX8_begins 12 = .ok (.iload_n 1, 1) := by decide +kernel
theorem dX8_begins_13 : decode cX8_begins 13 = .ok (.aload_n 0, 1) := by decide +kernel
theorem dX8_begins_14 : decode cX8_begins 14 = .ok (.getfield 28, 3) := by decide +kernel
theorem dX8_begins_17 : decode cX8_begins 17 = .ok (.iload_n 1, 1) := by decide +kernel
theorem dX8_begins_18 : decode cX8_begins 18 = .ok (.iaload, 1) := by decide +kernel
theorem dX8_begins_19 : decode cX8_begins 19 = .ok (.iastore, 1) := by decide +kernel
theorem dX8_begins_20 : decode cX8_begins 20 = .ok (.iinc 1 1, 3) := by decide +kernel
theorem dX8_begins_23 : decode cX8_begins 23 = .ok (.goto (-21), 3) := by decide +kernel
theorem dX8_begins_26 : decode cX8_begins 26 = .ok (.iconst 0, 1) := by decide +kernel
theorem dX8_begins_27 : decode cX8_begins 27 = .ok (.istore_n 1, 1) := by decide +kernel
theorem dX8_begins_28 : decode cX8_begins 28 = .ok (.iload_n 1, 1) := by decide +kernel
theorem dX8_begins_29 : decode cX8_begins 29 = .ok (.sipush 437, 3) := by decide +kernel
theorem dX8_begins_32 : decode cX8_begins 32 = .ok (.if_icmp .ge 16, 3) := by decide +kernel
theorem dX8_begins_35 : decode cX8_begins 35 = .ok (.aload_n 0, 1) := by decide +kernel
theorem dX8_begins_36 : decode cX8_begins 36 = .ok (.getfield 17, 3) := by decide +kernel
theorem dX8_begins_39 : decode cX8_begins 39 = .ok (.iload_n 1, 1) := by decide +kernel
theorem dX8_begins_40 : decode cX8_begins 40 = .ok (.iconst 0, 1) := by decide +kernel
theorem dX8_begins_41 : decode cX8_begins 41 = .ok (.iastore, 1) := by decide +kernel
theorem dX8_begins_42 : decode cX8_begins 42 = .ok (.iinc 1 1, 3) := by decide +kernel
theorem dX8_begins_45 : decode cX8_begins 45 = .ok (.goto (-17), 3) := by decide +kernel
theorem dX8_begins_48 : decode cX8_begins 48 = .ok (.iconst 0, 1) := by decide +kernel
theorem dX8_begins_49 : decode cX8_begins 49 = .ok (.istore_n 1, 1) := by decide +kernel
theorem dX8_begins_50 : decode cX8_begins 50 = .ok (.iload_n 1, 1) := by decide +kernel
theorem dX8_begins_51 : decode cX8_begins 51 = .ok (.bipush 8, 2) := by decide +kernel
theorem dX8_begins_53 : decode cX8_begins 53 = .ok (.if_icmp .ge 23, 3) := by decide +kernel
theorem dX8_begins_56 : decode cX8_begins 56 = .ok (.aload_n 0, 1) := by decide +kernel
theorem dX8_begins_57 : decode cX8_begins 57 = .ok (.getfield 17, 3) := by decide +kernel
theorem dX8_begins_60 : decode cX8_begins 60 = .ok (.iconst 1, 1) := by decide +kernel
theorem dX8_begins_61 : decode cX8_begins 61 = .ok (.iload_n 1, 1) := by decide +kernel
theorem dX8_begins_62 : decode cX8_begins 62 = .ok (.iadd, 1) := by decide +kernel
theorem dX8_begins_63 : decode cX8_begins 63 = .ok (.aload_n 0, 1) := by decide +kernel
theorem dX8_begins_64 : decode cX8_begins 64 = .ok (.getfield 31, 3) := by decide +kernel
theorem dX8_begins_67 : decode cX8_begins 67 = .ok (.iload_n 1, 1) := by decide +kernel
theorem dX8_begins_68 : decode cX8_begins 68 = .ok (.iaload, 1) := by decide +kernel
theorem dX8_begins_69 : decode cX8_begins 69 = .ok (.iastore, 1) := by decide +kernel
theorem dX8_begins_70 : decode cX8_begins 70 = .ok (.iinc 1 1, 3) := by decide +kernel
theorem dX8_begins_73 : decode cX8_begins 73 = .ok (.goto (-23), 3) := by decide +kernel
theorem dX8_begins_76 : decode cX8_begins 76 = .ok (.iconst 0, 1) := by decide +kernel
theorem dX8_begins_77 : decode cX8_begins 77 = .ok (.istore_n 1, 1) := by decide +kernel
theorem dX8_begins_78 : decode cX8_begins 78 = .ok (.iload_n 1, 1) := by decide +kernel
theorem dX8_begins_79 : decode cX8_begins 79 = .ok (.iconst 4, 1) := by decide +kernel
theorem dX8_begins_80 : decode cX8_begins 80 = .ok (.if_icmp .ge 54, 3) := by decide +kernel
theorem dX8_begins_83 : decode cX8_begins 83 = .ok (.aload_n 0, 1) := by decide +kernel
theorem dX8_begins_84 : decode cX8_begins 84 = .ok (.getfield 13, 3) := by decide +kernel
theorem dX8_begins_87 : decode cX8_begins 87 = .ok (.iload_n 1, 1) := by decide +kernel
theorem dX8_begins_88 : decode cX8_begins 88 = .ok (.aload_n 0, 1) := by decide +kernel
theorem dX8_begins_89 : decode cX8_begins 89 = .ok (.getfield 40, 3) := by decide +kernel
theorem dX8_begins_92 : decode cX8_begins 92 = .ok (.iload_n 1, 1) := by decide +kernel
theorem dX8_begins_93 : decode cX8_begins 93 = .ok (.laload, 1) := by decide +kernel
theorem dX8_begins_94 : decode cX8_begins 94 = .ok (.lastore, 1) := by decide +kernel
theorem dX8_begins_95 : decode cX8_begins 95 = .ok (.aload_n 0, 1) := by decide +kernel
theorem dX8_begins_96 : decode cX8_begins 96 = .ok (.iload_n 1, 1) := by decide +kernel
theorem dX8_begins_97 : decode cX8_begins 97 = .ok (.iconst 3, 1) := by decide +kernel
theorem dX8_begins_98 : decode cX8_begins 98 = .ok (.iconst (-1), 1) := by decide +kernel
theorem dX8_begins_99 : decode cX8_begins 99 = .ok (.invokevirtual 206, 3) := by decide +kernel
theorem dX8_begins_102 : decode cX8_begins 102 = .ok (.aload_n 0, 1) := by decide +kernel
theorem dX8_begins_103 : decode cX8_begins 103 = .ok (.iload_n 1, 1) := by decide +kernel
theorem dX8_begins_104 : decode cX8_begins 104 = .ok (.bipush 12, 2) := by decide +kernel
theorem dX8_begins_106 : decode cX8_begins 106 = .ok (.aload_n 0, 1) := by decide +kernel
theorem dX8_begins_107 : decode cX8_begins 107 = .ok (.getfield 34, 3) := by decide +kernel
theorem dX8_begins_110 : decode cX8_begins 110 = .ok (.iload_n 1, 1) := by decide +kernel
theorem dX8_begins_111 : decode cX8_begins 111 = .ok (.iaload, 1) := by decide +kernel
theorem dX8_begins_112 : decode cX8_begins 112 = .ok (.invokevirtual 206, 3) := by decide +kernel
theorem dX8_begins_115 : decode cX8_begins 115 = .ok (.aload_n 0, 1) := by decide +kernel
theorem dX8_begins_116 : decode cX8_begins 116 = .ok (.iload_n 1, 1) := by decide +kernel
theorem dX8_begins_117 : decode cX8_begins 117 = .ok (.bipush 13, 2) := by decide +kernel
theorem dX8_begins_119 : decode cX8_begins 119 = .ok (.aload_n 0, 1) := by decide +kernel
theorem dX8_begins_120 : decode cX8_begins 120 = .ok (.getfield 37, 3) := by decide +kernel
theorem dX8_begins_123 : decode cX8_begins 123 = .ok (.iload_n 1, 1) := by decide +kernel
theorem dX8_begins_124 : decode cX8_begins 124 = .ok (.iaload, 1) := by decide +kernel
theorem dX8_begins_125 : decode cX8_begins 125 = .ok (.invokevirtual 206, 3) := by decide +kernel
theorem dX8_begins_128 : decode cX8_begins 128 = .ok (.iinc 1 1, 3) := by decide +kernel
theorem dX8_begins_131 : decode cX8_begins 131 = .ok (.goto (-53), 3) := by decide +kernel
theorem dX8_begins_134 : decode cX8_begins 134 = .ok (.aload_n 0, 1) := by decide +kernel
theorem dX8_begins_135 : decode cX8_begins 135 = .ok (.iconst 0, 1) := by decide +kernel
theorem dX8_begins_136 : decode cX8_begins 136 = .ok (.putfield 210, 3) := by decide +kernel
theorem dX8_begins_139 : decode cX8_begins 139 = .ok (.aload_n 0, 1) := by decide +kernel
theorem dX8_begins_140 : decode cX8_begins 140 = .ok (.getfield 61, 3) := by decide +kernel
theorem dX8_begins_143 : decode cX8_begins 143 = .ok (.iconst 0, 1) := by decide +kernel
theorem dX8_begins_144 : decode cX8_begins 144 = .ok (.iconst 0, 1) := by decide +kernel
theorem dX8_begins_145 : decode cX8_begins 145 = .ok (.bastore, 1) := by decide +kernel
theorem dX8_begins_146 : decode cX8_begins 146 = .ok (.aload_n 0, 1) := by decide +kernel
theorem dX8_begins_147 : decode cX8_begins 147 = .ok (.getfield 61, 3) := by decide +kernel
theorem dX8_begins_150 : decode cX8_begins 150 = .ok (.iconst 1, 1) := by decide +kernel
theorem dX8_begins_151 : decode cX8_begins 151 = .ok (.iconst 0, 1) := by decide +kernel
theorem dX8_begins_152 : decode cX8_begins 152 = .ok (.bastore, 1) := by decide +kernel
theorem dX8_begins_153 : decode cX8_begins 153 = .ok (.return_, 1) := by decide +kernel
theorem dX8_errorPosition_0 : decode cX8_errorPosition 0 = .ok (.aload_n 0, 1) := by decide +kernel
theorem dX8_errorPosition_1 : decode cX8_errorPosition 1 = .ok (.iconst 0, 1) := by decide +kernel
theorem dX8_errorPosition_2 : decode cX8_errorPosition 2 = .ok (.putfield 71, 3) := by decide +kernel
theorem dX8_errorPosition_5 : decode cX8_errorPosition 5 = .ok (.aload_n 0, 1) := by decide +kernel
theorem dX8_errorPosition_6 : decode cX8_errorPosition 6 = .ok (.getfield 24, 3) := by decide +kernel
theorem dX8_errorPosition_9 : decode cX8_errorPosition 9 = .ok (.ireturn, 1) := by decide +kernel
theorem dX8_find_0 : decode cX8_find 0 = .ok (.aload_n 0, 1) := by decide +kernel
theorem dX8_find_1 : decode cX8_find 1 = .ok (.iconst 0, 1) := by decide +kernel
theorem dX8_find_2 : decode cX8_find 2 = .ok (.putfield 71, 3) := by decide +kernel
theorem dX8_find_5 : decode cX8_find 5 = .ok (.aload_n 0, 1) := by decide +kernel
theorem dX8_find_6 : decode cX8_find 6 = .ok (.aload_n 0, 1) := by decide +kernel
theorem dX8_find_7 : decode cX8_find 7 = .ok (.getfield 74, 3) := by decide +kernel
theorem dX8_find_10 : decode cX8_find 10 = .ok (.putfield 81, 3) := by decide +kernel
theorem dX8_find_13 : decode cX8_find 13 = .ok (.aload_n 0, 1) := by decide +kernel
theorem dX8_find_14 : decode cX8_find 14 = .ok (.iconst 0, 1) := by decide +kernel
theorem dX8_find_15 : decode cX8_find 15 = .ok (.putfield 74, 3) := by decide +kernel
theorem dX8_find_18 : decode cX8_find 18 = .ok (.aload_n 0, 1) := by decide +kernel
theorem dX8_find_19 : decode cX8_find 19 = .ok (.iconst 0, 1) := by decide +kernel
theorem dX8_find_20 : decode cX8_find 20 = .ok (.putfield 99, 3) := by decide +kernel
theorem dX8_find_23 : decode cX8_find 23 = .ok (.aload_n 0, 1) := by decide +kernel
theorem dX8_find_24 : decode cX8_find 24 = .ok (.iconst 0, 1) := by decide +kernel
theorem dX8_find_25 : decode cX8_find 25 = .ok (.putfield 88, 3) := by decide +kernel
theorem dX8_find_28 : decode cX8_find 28 = .ok (.aload_n 0, 1) := by decide +kernel
theorem dX8_find_29 : decode cX8_find 29 = .ok (.invokevirtual 108, 3) := by decide +kernel
theorem dX8_find_32 : decode cX8_find 32 = .ok (.aload_n 0, 1) := by decide +kernel
theorem dX8_find_33 : decode cX8_find 33 = .ok (.getfield 88, 3) := by decide +kernel
theorem dX8_find_36 : decode cX8_find 36 = .ok (.istore_n 1, 1) := by decide +kernel
theorem dX8_find_37 : decode cX8_find 37 = .ok (.aload_n 0, 1) := by decide +kernel
theorem dX8_find_38 : decode cX8_find 38 = .ok (.aload_n 0, 1) := by decide +kernel
theorem dX8_find_39 : decode cX8_find 39 = .ok (.getfield 88, 3) := by decide +kernel
theorem dX8_find_42 : decode cX8_find 42 = .ok (.invokevirtual 91, 3) := by decide +kernel
theorem dX8_find_45 : decode cX8_find 45 = .ok (.bipush 32, 2) := by decide +kernel
theorem dX8_find_47 : decode cX8_find 47 = .ok (.if_icmp .ne 16, 3) := by decide +kernel
theorem dX8_find_50 : decode cX8_find 50 = .ok (.aload_n 0, 1) := by decide +kernel
theorem dX8_find_51 : decode cX8_find 51 = .ok (.dup, 1) := by decide +kernel
theorem dX8_find_52 : decode cX8_find 52 = .ok (.getfield 88, 3) := by decide +kernel
theorem dX8_find_55 : decode cX8_find 55 = .ok (.iconst 1, 1) := by decide +kernel
theorem dX8_find_56 : decode cX8_find 56 = .ok (.iadd, 1) := by decide +kernel
theorem dX8_find_57 : decode cX8_find 57 = .ok (.putfield 88, 3) := by decide +kernel
theorem dX8_find_60 : decode cX8_find 60 = .ok (.goto (-23), 3) := by decide +kernel
theorem dX8_find_63 : decode cX8_find 63 = .ok (.iload_n 1, 1) := by decide +kernel
theorem dX8_find_64 : decode cX8_find 64 = .ok (.ifCond .eq 20, 3) := by decide +kernel
theorem dX8_find_67 : decode cX8_find 67 = .ok (.iload_n 1, 1) := by decide +kernel
theorem dX8_find_68 : decode cX8_find 68 = .ok (.bipush 8, 2) := by decide +kernel
theorem dX8_find_70 : decode cX8_find 70 = .ok (.if_icmp .gt 14, 3) := by decide +kernel
theorem dX8_find_73 : decode cX8_find 73 = .ok (.aload_n 0, 1) := by decide +kernel
theorem dX8_find_74 : decode cX8_find 74 = .ok (.getfield 88, 3) := by decide +kernel
theorem dX8_find_77 : decode cX8_find 77 = .ok (.aload_n 0, 1) := by decide +kernel
theorem dX8_find_78 : decode cX8_find 78 = .ok (.getfield 81, 3) := by decide +kernel
theorem dX8_find_81 : decode cX8_find 81 = .ok (.if_icmp .ge 7, 3) := by decide +kernel
theorem dX8_find_84 : decode cX8_find 84 = .ok (.iconst (-1), 1) := by decide +kernel
theorem dX8_find_85 : decode cX8_find 85 = .ok (.goto 20, 3) := by decide +kernel
theorem dX8_find_88 : decode cX8_find 88 = .ok (.aload_n 0, 1) := by decide +kernel
theorem dX8_find_89 : decode cX8_find 89 = .ok (.getfield 13, 3) := by decide +kernel
theorem dX8_find_92 : decode cX8_find 92 = .ok (.aload_n 0, 1) := by decide +kernel
theorem dX8_find_93 : decode cX8_find 93 = .ok (.getfield 7, 3) := by decide +kernel
theorem dX8_find_96 : decode cX8_find 96 = .ok (.iconst 4, 1) := by decide +kernel
theorem dX8_find_97 : decode cX8_find 97 = .ok (.iaload, 1) := by decide +kernel
theorem dX8_find_98 : decode cX8_find 98 = .ok (.aload_n 0, 1) := by decide +kernel
theorem dX8_find_99 : decode cX8_find 99 = .ok (.getfield 84, 3) := by decide +kernel
theorem dX8_find_102 : decode cX8_find 102 = .ok (.invokestatic 151, 3) := by decide +kernel
theorem dX8_find_105 : decode cX8_find 105 = .ok (.ireturn, 1) := by decide +kernel
theorem dX8_toldOf_0 : decode cX8_toldOf 0 = .ok (.aload_n 0, 1) := by decide +kernel
theorem dX8_toldOf_1 : decode cX8_toldOf 1 = .ok (.getfield 7, 3) := by decide +kernel
theorem dX8_toldOf_4 : decode cX8_toldOf 4 = .ok (.bipush 19, 2) := by decide +kernel
theorem dX8_toldOf_6 : decode cX8_toldOf 6 = .ok (.bipush 7, 2) := by decide +kernel
theorem dX8_toldOf_8 : decode cX8_toldOf 8 = .ok (.iload_n 1, 1) := by decide +kernel
theorem dX8_toldOf_9 : decode cX8_toldOf 9 = .ok (.imul, 1) := by decide +kernel
theorem dX8_toldOf_10 : decode cX8_toldOf 10 = .ok (.iadd, 1) := by decide +kernel
theorem dX8_toldOf_11 : decode cX8_toldOf 11 = .ok (.iload_n 2, 1) := by decide +kernel
theorem dX8_toldOf_12 : decode cX8_toldOf 12 = .ok (.iadd, 1) := by decide +kernel
theorem dX8_toldOf_13 : decode cX8_toldOf 13 = .ok (.iaload, 1) := by decide +kernel
theorem dX8_toldOf_14 : decode cX8_toldOf 14 = .ok (.ireturn, 1) := by decide +kernel
theorem dX8_of_0 : decode cX8_of 0 = .ok (.aload_n 0, 1) := by decide +kernel
theorem dX8_of_1 : decode cX8_of 1 = .ok (.getfield 17, 3) := by decide +kernel
theorem dX8_of_4 : decode cX8_of 4 = .ok (.bipush 13, 2) := by decide +kernel
theorem dX8_of_6 : decode cX8_of 6 = .ok (.bipush 106, 2) := by decide +kernel
theorem dX8_of_8 : decode cX8_of 8 = .ok (.iload_n 1, 1) := by decide +kernel
theorem dX8_of_9 : decode cX8_of 9 = .ok (.imul, 1) := by decide +kernel
theorem dX8_of_10 : decode cX8_of 10 = .ok (.iadd, 1) := by decide +kernel
theorem dX8_of_11 : decode cX8_of 11 = .ok (.iload_n 2, 1) := by decide +kernel
theorem dX8_of_12 : decode cX8_of 12 = .ok (.iadd, 1) := by decide +kernel
theorem dX8_of_13 : decode cX8_of 13 = .ok (.iaload, 1) := by decide +kernel
theorem dX8_of_14 : decode cX8_of 14 = .ok (.ireturn, 1) := by decide +kernel
theorem dX8_sets_0 : decode cX8_sets 0 = .ok (.aload_n 0, 1) := by decide +kernel
theorem dX8_sets_1 : decode cX8_sets 1 = .ok (.getfield 17, 3) := by decide +kernel
theorem dX8_sets_4 : decode cX8_sets 4 = .ok (.bipush 13, 2) := by decide +kernel
theorem dX8_sets_6 : decode cX8_sets 6 = .ok (.bipush 106, 2) := by decide +kernel
theorem dX8_sets_8 : decode cX8_sets 8 = .ok (.iload_n 1, 1) := by decide +kernel
theorem dX8_sets_9 : decode cX8_sets 9 = .ok (.imul, 1) := by decide +kernel
theorem dX8_sets_10 : decode cX8_sets 10 = .ok (.iadd, 1) := by decide +kernel
theorem dX8_sets_11 : decode cX8_sets 11 = .ok (.iload_n 2, 1) := by decide +kernel
theorem dX8_sets_12 : decode cX8_sets 12 = .ok (.iadd, 1) := by decide +kernel
theorem dX8_sets_13 : decode cX8_sets 13 = .ok (.iload_n 3, 1) := by decide +kernel
theorem dX8_sets_14 : decode cX8_sets 14 = .ok (.iastore, 1) := by decide +kernel
theorem dX8_sets_15 : decode cX8_sets 15 = .ok (.return_, 1) := by decide +kernel
theorem dX8_adds_0 : decode cX8_adds 0 = .ok (.aload_n 0, 1) := by decide +kernel
theorem dX8_adds_1 : decode cX8_adds 1 = .ok (.getfield 17, 3) := by decide +kernel
theorem dX8_adds_4 : decode cX8_adds 4 = .ok (.bipush 13, 2) := by decide +kernel
theorem dX8_adds_6 : decode cX8_adds 6 = .ok (.bipush 106, 2) := by decide +kernel
theorem dX8_adds_8 : decode cX8_adds 8 = .ok (.iload_n 1, 1) := by decide +kernel
theorem dX8_adds_9 : decode cX8_adds 9 = .ok (.imul, 1) := by decide +kernel
theorem dX8_adds_10 : decode cX8_adds 10 = .ok (.iadd, 1) := by decide +kernel
theorem dX8_adds_11 : decode cX8_adds 11 = .ok (.iload_n 2, 1) := by decide +kernel
theorem dX8_adds_12 : decode cX8_adds 12 = .ok (.iadd, 1) := by decide +kernel
theorem dX8_adds_13 : decode cX8_adds 13 = .ok (.dup2, 1) := by decide +kernel
theorem dX8_adds_14 : decode cX8_adds 14 = .ok (.iaload, 1) := by decide +kernel
theorem dX8_adds_15 : decode cX8_adds 15 = .ok (.iload_n 3, 1) := by decide +kernel
theorem dX8_adds_16 : decode cX8_adds 16 = .ok (.iadd, 1) := by decide +kernel
theorem dX8_adds_17 : decode cX8_adds 17 = .ok (.iastore, 1) := by decide +kernel
theorem dX8_adds_18 : decode cX8_adds 18 = .ok (.return_, 1) := by decide +kernel
theorem dX8_rateAt_0 : decode cX8_rateAt 0 = .ok (.aload_n 0, 1) := by decide +kernel
theorem dX8_rateAt_1 : decode cX8_rateAt 1 = .ok (.getfield 43, 3) := by decide +kernel
theorem dX8_rateAt_4 : decode cX8_rateAt 4 = .ok (.iconst (-1), 1) := by decide +kernel
theorem dX8_rateAt_5 : decode cX8_rateAt 5 = .ok (.if_icmp .eq 8, 3) := by decide +kernel
theorem dX8_rateAt_8 : decode cX8_rateAt 8 = .ok (.aload_n 0, 1) := by decide +kernel
theorem dX8_rateAt_9 : decode cX8_rateAt 9 = .ok (.getfield 43, 3) := by decide +kernel
theorem dX8_rateAt_12 : decode cX8_rateAt 12 = .ok (.ireturn, 1) := by decide +kernel
theorem dX8_rateAt_13 : decode cX8_rateAt 13 = .ok (.iconst 0, 1) := by decide +kernel
theorem dX8_rateAt_14 : decode cX8_rateAt 14 = .ok (.istore_n 2, 1) := by decide +kernel
theorem dX8_rateAt_15 : decode cX8_rateAt 15 = .ok (.iconst 0, 1) := by decide +kernel
theorem dX8_rateAt_16 : decode cX8_rateAt 16 = .ok (.istore_n 3, 1) := by decide +kernel
theorem dX8_rateAt_17 : decode cX8_rateAt 17 = .ok (.iload_n 3, 1) := by decide +kernel
theorem dX8_rateAt_18 : decode cX8_rateAt 18 = .ok (.aload_n 0, 1) := by decide +kernel
theorem dX8_rateAt_19 : decode cX8_rateAt 19 = .ok (.getfield 7, 3) := by decide +kernel
theorem dX8_rateAt_22 : decode cX8_rateAt 22 = .ok (.iconst 5, 1) := by decide +kernel
theorem dX8_rateAt_23 : decode cX8_rateAt 23 = .ok (.iaload, 1) := by decide +kernel
theorem dX8_rateAt_24 : decode cX8_rateAt 24 = .ok (.if_icmp .ge 21, 3) := by decide +kernel
theorem dX8_rateAt_27 : decode cX8_rateAt 27 = .ok (.iload_n 2, 1) := by decide +kernel
theorem dX8_rateAt_28 : decode cX8_rateAt 28 = .ok (.aload_n 0, 1) := by decide +kernel
theorem dX8_rateAt_29 : decode cX8_rateAt 29 = .ok (.getfield 7, 3) := by decide +kernel
theorem dX8_rateAt_32 : decode cX8_rateAt 32 = .ok (.bipush 7, 2) := by decide +kernel
theorem dX8_rateAt_34 : decode cX8_rateAt 34 = .ok (.iload_n 3, 1) := by decide +kernel
theorem dX8_rateAt_35 : decode cX8_rateAt 35 = .ok (.iadd, 1) := by decide +kernel
theorem dX8_rateAt_36 : decode cX8_rateAt 36 = .ok (.iaload, 1) := by decide +kernel
theorem dX8_rateAt_37 : decode cX8_rateAt 37 = .ok (.iadd, 1) := by decide +kernel
theorem dX8_rateAt_38 : decode cX8_rateAt 38 = .ok (.istore_n 2, 1) := by decide +kernel
theorem dX8_rateAt_39 : decode cX8_rateAt 39 = .ok (.iinc 3 1, 3) := by decide +kernel
theorem dX8_rateAt_42 : decode cX8_rateAt 42 = .ok (.goto (-25), 3) := by decide +kernel
theorem dX8_rateAt_45 : decode cX8_rateAt 45 = .ok (.iload_n 2, 1) := by decide +kernel
theorem dX8_rateAt_46 : decode cX8_rateAt 46 = .ok (.ifCond .ne 6, 3) := by decide +kernel
theorem dX8_rateAt_49 : decode cX8_rateAt 49 = .ok (.bipush 100, 2) := by decide +kernel
theorem dX8_rateAt_51 : decode cX8_rateAt 51 = .ok (.ireturn, 1) := by decide +kernel
theorem dX8_rateAt_52 : decode cX8_rateAt 52 = .ok (.iload_n 1, 1) := by decide +kernel
theorem dX8_rateAt_53 : decode cX8_rateAt 53 = .ok (.iload_n 2, 1) := by decide +kernel
theorem dX8_rateAt_54 : decode cX8_rateAt 54 = .ok (.irem, 1) := by decide +kernel
theorem dX8_rateAt_55 : decode cX8_rateAt 55 = .ok (.istore_n 3, 1) := by decide +kernel
theorem dX8_rateAt_56 : decode cX8_rateAt 56 = .ok (.iconst 0, 1) := by decide +kernel
theorem dX8_rateAt_57 : decode cX8_rateAt 57 = .ok (.istore 4, 2) := by decide +kernel
theorem dX8_rateAt_59 : decode cX8_rateAt 59 = .ok (.iload_n 3, 1) := by decide +kernel
theorem dX8_rateAt_60 : decode cX8_rateAt 60 = .ok (.aload_n 0, 1) := by decide +kernel
theorem dX8_rateAt_61 : decode cX8_rateAt 61 = .ok (.getfield 7, 3) := by decide +kernel
theorem dX8_rateAt_64 : decode cX8_rateAt 64 = .ok (.bipush 7, 2) := by decide +kernel
theorem dX8_rateAt_66 : decode cX8_rateAt 66 = .ok (.iload 4, 2) := by decide +kernel
theorem dX8_rateAt_68 : decode cX8_rateAt 68 = .ok (.iadd, 1) := by decide +kernel
theorem dX8_rateAt_69 : decode cX8_rateAt 69 = .ok (.iaload, 1) := by decide +kernel
theorem dX8_rateAt_70 : decode cX8_rateAt 70 = .ok (.if_icmp .lt 22, 3) := by decide +kernel
theorem dX8_rateAt_73 : decode cX8_rateAt 73 = .ok (.iload_n 3, 1) := by decide +kernel
theorem dX8_rateAt_74 : decode cX8_rateAt 74 = .ok (.aload_n 0, 1) := by decide +kernel
theorem dX8_rateAt_75 : decode cX8_rateAt 75 = .ok (.getfield 7, 3) := by decide +kernel
theorem dX8_rateAt_78 : decode cX8_rateAt 78 = .ok (.bipush 7, 2) := by decide +kernel
theorem dX8_rateAt_80 : decode cX8_rateAt 80 = .ok (.iload 4, 2) := by decide +kernel
theorem dX8_rateAt_82 : decode cX8_rateAt 82 = .ok (.iadd, 1) := by decide +kernel
theorem dX8_rateAt_83 : decode cX8_rateAt 83 = .ok (.iaload, 1) := by decide +kernel
theorem dX8_rateAt_84 : decode cX8_rateAt 84 = .ok (.isub, 1) := by decide +kernel
theorem dX8_rateAt_85 : decode cX8_rateAt 85 = .ok (.istore_n 3, 1) := by decide +kernel
theorem dX8_rateAt_86 : decode cX8_rateAt 86 = .ok (.iinc 4 1, 3) := by decide +kernel
theorem dX8_rateAt_89 : decode cX8_rateAt 89 = .ok (.goto (-30), 3) := by decide +kernel
theorem dX8_rateAt_92 : decode cX8_rateAt 92 = .ok (.aload_n 0, 1) := by decide +kernel
theorem dX8_rateAt_93 : decode cX8_rateAt 93 = .ok (.getfield 17, 3) := by decide +kernel
theorem dX8_rateAt_96 : decode cX8_rateAt 96 = .ok (.iconst 1, 1) := by decide +kernel
theorem dX8_rateAt_97 : decode cX8_rateAt 97 = .ok (.iload 4, 2) := by decide +kernel
theorem dX8_rateAt_99 : decode cX8_rateAt 99 = .ok (.iadd, 1) := by decide +kernel
theorem dX8_rateAt_100 : decode cX8_rateAt 100 = .ok (.iaload, 1) := by decide +kernel
theorem dX8_rateAt_101 : decode cX8_rateAt 101 = .ok (.ireturn, 1) := by decide +kernel
theorem dX8_sizeAt_0 : decode cX8_sizeAt 0 = .ok (.aload_n 0, 1) := by decide +kernel
theorem dX8_sizeAt_1 : decode cX8_sizeAt 1 = .ok (.getfield 7, 3) := by decide +kernel
theorem dX8_sizeAt_4 : decode cX8_sizeAt 4 = .ok (.bipush 6, 2) := by decide +kernel
theorem dX8_sizeAt_6 : decode cX8_sizeAt 6 = .ok (.iaload, 1) := by decide +kernel
theorem dX8_sizeAt_7 : decode cX8_sizeAt 7 = .ok (.istore 4, 2) := by decide +kernel
theorem dX8_sizeAt_9 : decode cX8_sizeAt 9 = .ok (.iload 4, 2) := by decide +kernel
theorem dX8_sizeAt_11 : decode cX8_sizeAt 11 = .ok (.ifCond .ne 8, 3) := by decide +kernel
theorem dX8_sizeAt_14 : decode cX8_sizeAt 14 = .ok (.bipush 100, 2) := by decide +kernel
theorem dX8_sizeAt_16 : decode cX8_sizeAt 16 = .ok (.goto 15, 3) := by decide +kernel
theorem dX8_sizeAt_19 : decode cX8_sizeAt 19 = .ok (.aload_n 0, 1) := by decide +kernel
theorem dX8_sizeAt_20 : decode cX8_sizeAt 20 = .ok (.getfield 7, 3) := by decide +kernel
theorem dX8_sizeAt_23 : decode cX8_sizeAt 23 = .ok (.bipush 15, 2) := by decide +kernel
theorem dX8_sizeAt_25 : decode cX8_sizeAt 25 = .ok (.iload_n 2, 1) := by decide +kernel
theorem dX8_sizeAt_26 : decode cX8_sizeAt 26 = .ok (.iload 4, 2) := by decide +kernel
theorem dX8_sizeAt_28 : decode cX8_sizeAt 28 = .ok (.irem, 1) := by decide +kernel
theorem dX8_sizeAt_29 : decode cX8_sizeAt 29 = .ok (.iadd, 1) := by decide +kernel
theorem dX8_sizeAt_30 : decode cX8_sizeAt 30 = .ok (.iaload, 1) := by decide +kernel
theorem dX8_sizeAt_31 : decode cX8_sizeAt 31 = .ok (.istore 5, 2) := by decide +kernel
theorem dX8_sizeAt_33 : decode cX8_sizeAt 33 = .ok (.aload_n 0, 1) := by decide +kernel
theorem dX8_sizeAt_34 : decode cX8_sizeAt 34 = .ok (.iload_n 1, 1) := by decide +kernel
theorem dX8_sizeAt_35 : decode cX8_sizeAt 35 = .ok (.iconst 3, 1) := by decide +kernel
theorem dX8_sizeAt_36 : decode cX8_sizeAt 36 = .ok (.iload_n 3, 1) := by decide +kernel
theorem dX8_sizeAt_37 : decode cX8_sizeAt 37 = .ok (.iadd, 1) := by decide +kernel
theorem dX8_sizeAt_38 : decode cX8_sizeAt 38 = .ok (.invokevirtual 213, 3) := by decide +kernel
theorem dX8_sizeAt_41 : decode cX8_sizeAt 41 = .ok (.iload 5, 2) := by decide +kernel
theorem dX8_sizeAt_43 : decode cX8_sizeAt 43 = .ok (.imul, 1) := by decide +kernel
theorem dX8_sizeAt_44 : decode cX8_sizeAt 44 = .ok (.bipush 100, 2) := by decide +kernel
theorem dX8_sizeAt_46 : decode cX8_sizeAt 46 = .ok (.idiv, 1) := by decide +kernel
theorem dX8_sizeAt_47 : decode cX8_sizeAt 47 = .ok (.istore 6, 2) := by decide +kernel
theorem dX8_sizeAt_49 : decode cX8_sizeAt 49 = .ok (.iload 6, 2) := by decide +kernel
theorem dX8_sizeAt_51 : decode cX8_sizeAt 51 = .ok (.iconst 1, 1) := by decide +kernel
theorem dX8_sizeAt_52 : decode cX8_sizeAt 52 = .ok (.if_icmp .ge 7, 3) := by decide +kernel
theorem dX8_sizeAt_55 : decode cX8_sizeAt 55 = .ok (.iconst 1, 1) := by decide +kernel
theorem dX8_sizeAt_56 : decode cX8_sizeAt 56 = .ok (.goto 5, 3) := by decide +kernel
theorem dX8_sizeAt_59 : decode cX8_sizeAt 59 = .ok (.iload 6, 2) := by decide +kernel
theorem dX8_sizeAt_61 : decode cX8_sizeAt 61 = .ok (.ireturn, 1) := by decide +kernel
theorem dX8_hasJoined_0 : decode cX8_hasJoined 0 = .ok (.aload_n 0, 1) := by decide +kernel
theorem dX8_hasJoined_1 : decode cX8_hasJoined 1 = .ok (.getfield 17, 3) := by decide +kernel
theorem dX8_hasJoined_4 : decode cX8_hasJoined 4 = .ok (.iconst 0, 1) := by decide +kernel
theorem dX8_hasJoined_5 : decode cX8_hasJoined 5 = .ok (.iaload, 1) := by decide +kernel
theorem dX8_hasJoined_6 : decode cX8_hasJoined 6 = .ok (.aload_n 0, 1) := by decide +kernel
theorem dX8_hasJoined_7 : decode cX8_hasJoined 7 = .ok (.iload_n 1, 1) := by decide +kernel
theorem dX8_hasJoined_8 : decode cX8_hasJoined 8 = .ok (.iconst 2, 1) := by decide +kernel
theorem dX8_hasJoined_9 : decode cX8_hasJoined 9 = .ok (.invokevirtual 213, 3) := by decide +kernel
theorem dX8_hasJoined_12 : decode cX8_hasJoined 12 = .ok (.if_icmp .lt 7, 3) := by decide +kernel
theorem dX8_hasJoined_15 : decode cX8_hasJoined 15 = .ok (.iconst 1, 1) := by decide +kernel
theorem dX8_hasJoined_16 : decode cX8_hasJoined 16 = .ok (.goto 4, 3) := by decide +kernel
theorem dX8_hasJoined_19 : decode cX8_hasJoined 19 = .ok (.iconst 0, 1) := by decide +kernel
theorem dX8_hasJoined_20 : decode cX8_hasJoined 20 = .ok (.ireturn, 1) := by decide +kernel
theorem dX8_hasAll_0 : decode cX8_hasAll 0 = .ok (.aload_n 0, 1) := by decide +kernel
theorem dX8_hasAll_1 : decode cX8_hasAll 1 = .ok (.iload_n 1, 1) := by decide +kernel
theorem dX8_hasAll_2 : decode cX8_hasAll 2 = .ok (.iconst 2, 1) := by decide +kernel
theorem dX8_hasAll_3 : decode cX8_hasAll 3 = .ok (.invokevirtual 217, 3) := by decide +kernel
theorem dX8_hasAll_6 : decode cX8_hasAll 6 = .ok (.aload_n 0, 1) := by decide +kernel
theorem dX8_hasAll_7 : decode cX8_hasAll 7 = .ok (.iload_n 1, 1) := by decide +kernel
theorem dX8_hasAll_8 : decode cX8_hasAll 8 = .ok (.iconst 0, 1) := by decide +kernel
theorem dX8_hasAll_9 : decode cX8_hasAll 9 = .ok (.invokevirtual 213, 3) := by decide +kernel
theorem dX8_hasAll_12 : decode cX8_hasAll 12 = .ok (.if_icmp .ne 7, 3) := by decide +kernel
theorem dX8_hasAll_15 : decode cX8_hasAll 15 = .ok (.iconst 1, 1) := by decide +kernel
theorem dX8_hasAll_16 : decode cX8_hasAll 16 = .ok (.goto 4, 3) := by decide +kernel
theorem dX8_hasAll_19 : decode cX8_hasAll 19 = .ok (.iconst 0, 1) := by decide +kernel
theorem dX8_hasAll_20 : decode cX8_hasAll 20 = .ok (.ireturn, 1) := by decide +kernel
theorem dX8_askedMany_0 : decode cX8_askedMany 0 = .ok (.aload_n 0, 1) := by decide +kernel
theorem dX8_askedMany_1 : decode cX8_askedMany 1 = .ok (.iload_n 1, 1) := by decide +kernel
theorem dX8_askedMany_2 : decode cX8_askedMany 2 = .ok (.iconst 2, 1) := by decide +kernel
theorem dX8_askedMany_3 : decode cX8_askedMany 3 = .ok (.invokevirtual 217, 3) := by decide +kernel
theorem dX8_askedMany_6 : decode cX8_askedMany 6 = .ok (.aload_n 0, 1) := by decide +kernel
theorem dX8_askedMany_7 : decode cX8_askedMany 7 = .ok (.iload_n 1, 1) := by decide +kernel
theorem dX8_askedMany_8 : decode cX8_askedMany 8 = .ok (.iconst 3, 1) := by decide +kernel
theorem dX8_askedMany_9 : decode cX8_askedMany 9 = .ok (.invokevirtual 217, 3) := by decide +kernel
theorem dX8_askedMany_12 : decode cX8_askedMany 12 = .ok (.iconst (-1), 1) := by decide +kernel
theorem dX8_askedMany_13 : decode cX8_askedMany 13 = .ok (.if_icmp .ne 7, 3) := by decide +kernel
theorem dX8_askedMany_16 : decode cX8_askedMany 16 = .ok (.iconst 0, 1) := by decide +kernel
theorem dX8_askedMany_17 : decode cX8_askedMany 17 = .ok (.goto 4, 3) := by decide +kernel
theorem dX8_askedMany_20 : decode cX8_askedMany 20 = .ok (.iconst 1, 1) := by decide +kernel
theorem dX8_askedMany_21 : decode cX8_askedMany 21 = .ok (.iadd, 1) := by decide +kernel
theorem dX8_askedMany_22 : decode cX8_askedMany 22 = .ok (.ireturn, 1) := by decide +kernel
theorem dX8_byBuffer_0 : decode cX8_byBuffer 0 = .ok (.aload_n 0, 1) := by decide +kernel
theorem dX8_byBuffer_1 : decode cX8_byBuffer 1 = .ok (.iload_n 1, 1) := by decide +kernel
theorem dX8_byBuffer_2 : decode cX8_byBuffer 2 = .ok (.iconst 1, 1) := by decide +kernel
theorem dX8_byBuffer_3 : decode cX8_byBuffer 3 = .ok (.invokevirtual 217, 3) := by decide +kernel
theorem dX8_byBuffer_6 : decode cX8_byBuffer 6 = .ok (.aload_n 0, 1) := by decide +kernel
theorem dX8_byBuffer_7 : decode cX8_byBuffer 7 = .ok (.iload_n 1, 1) := by decide +kernel
theorem dX8_byBuffer_8 : decode cX8_byBuffer 8 = .ok (.iconst 1, 1) := by decide +kernel
theorem dX8_byBuffer_9 : decode cX8_byBuffer 9 = .ok (.invokevirtual 213, 3) := by decide +kernel
theorem dX8_byBuffer_12 : decode cX8_byBuffer 12 = .ok (.imul, 1) := by decide +kernel
theorem dX8_byBuffer_13 : decode cX8_byBuffer 13 = .ok (.aload_n 0, 1) := by decide +kernel
theorem dX8_byBuffer_14 : decode cX8_byBuffer 14 = .ok (.getfield 7, 3) := by decide +kernel
theorem dX8_byBuffer_17 : decode cX8_byBuffer 17 = .ok (.iconst 2, 1) := by decide +kernel
theorem dX8_byBuffer_18 : decode cX8_byBuffer 18 = .ok (.iaload, 1) := by decide +kernel
theorem dX8_byBuffer_19 : decode cX8_byBuffer 19 = .ok (.idiv, 1) := by decide +kernel
theorem dX8_byBuffer_20 : decode cX8_byBuffer 20 = .ok (.istore_n 2, 1) := by decide +kernel
theorem dX8_byBuffer_21 : decode cX8_byBuffer 21 = .ok (.aload_n 0, 1) := by decide +kernel
theorem dX8_byBuffer_22 : decode cX8_byBuffer 22 = .ok (.iload_n 1, 1) := by decide +kernel
theorem dX8_byBuffer_23 : decode cX8_byBuffer 23 = .ok (.iconst 1, 1) := by decide +kernel
theorem dX8_byBuffer_24 : decode cX8_byBuffer 24 = .ok (.invokevirtual 213, 3) := by decide +kernel
theorem dX8_byBuffer_27 : decode cX8_byBuffer 27 = .ok (.iconst 1, 1) := by decide +kernel
theorem dX8_byBuffer_28 : decode cX8_byBuffer 28 = .ok (.isub, 1) := by decide +kernel
theorem dX8_byBuffer_29 : decode cX8_byBuffer 29 = .ok (.istore_n 3, 1) := by decide +kernel
theorem dX8_byBuffer_30 : decode cX8_byBuffer 30 = .ok (.iload_n 2, 1) := by decide +kernel
theorem dX8_byBuffer_31 : decode cX8_byBuffer 31 = .ok (.iload_n 3, 1) := by decide +kernel
theorem dX8_byBuffer_32 : decode cX8_byBuffer 32 = .ok (.if_icmp .ge 7, 3) := by decide +kernel
theorem dX8_byBuffer_35 : decode cX8_byBuffer 35 = .ok (.iload_n 2, 1) := by decide +kernel
theorem dX8_byBuffer_36 : decode cX8_byBuffer 36 = .ok (.goto 4, 3) := by decide +kernel
theorem dX8_byBuffer_39 : decode cX8_byBuffer 39 = .ok (.iload_n 3, 1) := by decide +kernel
theorem dX8_byBuffer_40 : decode cX8_byBuffer 40 = .ok (.ireturn, 1) := by decide +kernel
theorem dX8_byRate_0 : decode cX8_byRate 0 = .ok (.iconst 0, 1) := by decide +kernel
theorem dX8_byRate_1 : decode cX8_byRate 1 = .ok (.istore_n 2, 1) := by decide +kernel
theorem dX8_byRate_2 : decode cX8_byRate 2 = .ok (.iconst 1, 1) := by decide +kernel
theorem dX8_byRate_3 : decode cX8_byRate 3 = .ok (.istore_n 3, 1) := by decide +kernel
theorem dX8_byRate_4 : decode cX8_byRate 4 = .ok (.iload_n 3, 1) := by decide +kernel
theorem dX8_byRate_5 : decode cX8_byRate 5 = .ok (.aload_n 0, 1) := by decide +kernel
theorem dX8_byRate_6 : decode cX8_byRate 6 = .ok (.iload_n 1, 1) := by decide +kernel
theorem dX8_byRate_7 : decode cX8_byRate 7 = .ok (.iconst 1, 1) := by decide +kernel
theorem dX8_byRate_8 : decode cX8_byRate 8 = .ok (.invokevirtual 213, 3) := by decide +kernel
theorem dX8_byRate_11 : decode cX8_byRate 11 = .ok (.if_icmp .ge 53, 3) := by decide +kernel
theorem dX8_byRate_14 : decode cX8_byRate 14 = .ok (.aload_n 0, 1) := by decide +kernel
theorem dX8_byRate_15 : decode cX8_byRate 15 = .ok (.iload_n 1, 1) := by decide +kernel
theorem dX8_byRate_16 : decode cX8_byRate 16 = .ok (.aload_n 0, 1) := by decide +kernel
theorem dX8_byRate_17 : decode cX8_byRate 17 = .ok (.iload_n 1, 1) := by decide +kernel
theorem dX8_byRate_18 : decode cX8_byRate 18 = .ok (.invokevirtual 220, 3) := by decide +kernel
theorem dX8_byRate_21 : decode cX8_byRate 21 = .ok (.iload_n 3, 1) := by decide +kernel
theorem dX8_byRate_22 : decode cX8_byRate 22 = .ok (.invokevirtual 223, 3) := by decide +kernel
theorem dX8_byRate_25 : decode cX8_byRate 25 = .ok (.bipush 100, 2) := by decide +kernel
theorem dX8_byRate_27 : decode cX8_byRate 27 = .ok (.imul, 1) := by decide +kernel
theorem dX8_byRate_28 : decode cX8_byRate 28 = .ok (.aload_n 0, 1) := by decide +kernel
theorem dX8_byRate_29 : decode cX8_byRate 29 = .ok (.iload_n 1, 1) := by decide +kernel
theorem dX8_byRate_30 : decode cX8_byRate 30 = .ok (.bipush 11, 2) := by decide +kernel
theorem dX8_byRate_32 : decode cX8_byRate 32 = .ok (.invokevirtual 217, 3) := by decide +kernel
theorem dX8_byRate_35 : decode cX8_byRate 35 = .ok (.aload_n 0, 1) := by decide +kernel
theorem dX8_byRate_36 : decode cX8_byRate 36 = .ok (.getfield 7, 3) := by decide +kernel
theorem dX8_byRate_39 : decode cX8_byRate 39 = .ok (.iconst 0, 1) := by decide +kernel
theorem dX8_byRate_40 : decode cX8_byRate 40 = .ok (.iaload, 1) := by decide +kernel
theorem dX8_byRate_41 : decode cX8_byRate 41 = .ok (.imul, 1) := by decide +kernel
theorem dX8_byRate_42 : decode cX8_byRate 42 = .ok (.aload_n 0, 1) := by decide +kernel
theorem dX8_byRate_43 : decode cX8_byRate 43 = .ok (.getfield 7, 3) := by decide +kernel
theorem dX8_byRate_46 : decode cX8_byRate 46 = .ok (.iconst 3, 1) := by decide +kernel
theorem dX8_byRate_47 : decode cX8_byRate 47 = .ok (.iaload, 1) := by decide +kernel
theorem dX8_byRate_48 : decode cX8_byRate 48 = .ok (.imul, 1) := by decide +kernel
theorem dX8_byRate_49 : decode cX8_byRate 49 = .ok (.if_icmp .gt 7, 3) := by decide +kernel
theorem dX8_byRate_52 : decode cX8_byRate 52 = .ok (.iload_n 3, 1) := by decide +kernel
theorem dX8_byRate_53 : decode cX8_byRate 53 = .ok (.goto 4, 3) := by decide +kernel
theorem dX8_byRate_56 : decode cX8_byRate 56 = .ok (.iload_n 2, 1) := by decide +kernel
theorem dX8_byRate_57 : decode cX8_byRate 57 = .ok (.istore_n 2, 1) := by decide +kernel
theorem dX8_byRate_58 : decode cX8_byRate 58 = .ok (.iinc 3 1, 3) := by decide +kernel
theorem dX8_byRate_61 : decode cX8_byRate 61 = .ok (.goto (-57), 3) := by decide +kernel
theorem dX8_byRate_64 : decode cX8_byRate 64 = .ok (.iload_n 2, 1) := by decide +kernel
theorem dX8_byRate_65 : decode cX8_byRate 65 = .ok (.ireturn, 1) := by decide +kernel
theorem dX8_byRule_0 : decode cX8_byRule 0 = .ok (.aload_n 0, 1) := by decide +kernel
theorem dX8_byRule_1 : decode cX8_byRule 1 = .ok (.iload_n 1, 1) := by decide +kernel
theorem dX8_byRule_2 : decode cX8_byRule 2 = .ok (.bipush 12, 2) := by decide +kernel
theorem dX8_byRule_4 : decode cX8_byRule 4 = .ok (.invokevirtual 217, 3) := by decide +kernel
theorem dX8_byRule_7 : decode cX8_byRule 7 = .ok (.tableswitch 39 0 2 #[25, 27, 33], 25) := by decide +kernel
theorem dX8_byRule_32 : decode cX8_byRule 32 = .ok (.iconst 0, 1) := by decide +kernel
theorem dX8_byRule_33 : decode cX8_byRule 33 = .ok (.ireturn, 1) := by decide +kernel
theorem dX8_byRule_34 : decode cX8_byRule 34 = .ok (.aload_n 0, 1) := by decide +kernel
theorem dX8_byRule_35 : decode cX8_byRule 35 = .ok (.iload_n 1, 1) := by decide +kernel
theorem dX8_byRule_36 : decode cX8_byRule 36 = .ok (.invokevirtual 227, 3) := by decide +kernel
theorem dX8_byRule_39 : decode cX8_byRule 39 = .ok (.ireturn, 1) := by decide +kernel
theorem dX8_byRule_40 : decode cX8_byRule 40 = .ok (.aload_n 0, 1) := by decide +kernel
theorem dX8_byRule_41 : decode cX8_byRule 41 = .ok (.iload_n 1, 1) := by decide +kernel
theorem dX8_byRule_42 : decode cX8_byRule 42 = .ok (.invokevirtual 230, 3) := by decide +kernel
theorem dX8_byRule_45 : decode cX8_byRule 45 = .ok (.ireturn, 1) := by decide +kernel
theorem dX8_byRule_46 : decode cX8_byRule 46 = .ok (.aload_n 0, 1) := by decide +kernel
theorem dX8_byRule_47 : decode cX8_byRule 47 = .ok (.iload_n 1, 1) := by decide +kernel
theorem dX8_byRule_48 : decode cX8_byRule 48 = .ok (.invokevirtual 227, 3) := by decide +kernel
theorem dX8_byRule_51 : decode cX8_byRule 51 = .ok (.aload_n 0, 1) := by decide +kernel
theorem dX8_byRule_52 : decode cX8_byRule 52 = .ok (.iload_n 1, 1) := by decide +kernel
theorem dX8_byRule_53 : decode cX8_byRule 53 = .ok (.invokevirtual 230, 3) := by decide +kernel
theorem dX8_byRule_56 : decode cX8_byRule 56 = .ok (.if_icmp .ge 11, 3) := by decide +kernel
theorem dX8_byRule_59 : decode cX8_byRule 59 = .ok (.aload_n 0, 1) := by decide +kernel
theorem dX8_byRule_60 : decode cX8_byRule 60 = .ok (.iload_n 1, 1) := by decide +kernel
theorem dX8_byRule_61 : decode cX8_byRule 61 = .ok (.invokevirtual 227, 3) := by decide +kernel
theorem dX8_byRule_64 : decode cX8_byRule 64 = .ok (.goto 8, 3) := by decide +kernel
theorem dX8_byRule_67 : decode cX8_byRule 67 = .ok (.aload_n 0, 1) := by decide +kernel
theorem dX8_byRule_68 : decode cX8_byRule 68 = .ok (.iload_n 1, 1) := by decide +kernel
theorem dX8_byRule_69 : decode cX8_byRule 69 = .ok (.invokevirtual 230, 3) := by decide +kernel
theorem dX8_byRule_72 : decode cX8_byRule 72 = .ok (.ireturn, 1) := by decide +kernel
theorem dX8_asks_0 : decode cX8_asks 0 = .ok (.aload_n 0, 1) := by decide +kernel
theorem dX8_asks_1 : decode cX8_asks 1 = .ok (.iload_n 1, 1) := by decide +kernel
theorem dX8_asks_2 : decode cX8_asks 2 = .ok (.iconst 1, 1) := by decide +kernel
theorem dX8_asks_3 : decode cX8_asks 3 = .ok (.invokevirtual 217, 3) := by decide +kernel
theorem dX8_asks_6 : decode cX8_asks 6 = .ok (.ifCond .eq 25, 3) := by decide +kernel
theorem dX8_asks_9 : decode cX8_asks 9 = .ok (.aload_n 0, 1) := by decide +kernel
theorem dX8_asks_10 : decode cX8_asks 10 = .ok (.iload_n 1, 1) := by decide +kernel
theorem dX8_asks_11 : decode cX8_asks 11 = .ok (.iconst 1, 1) := by decide +kernel
theorem dX8_asks_12 : decode cX8_asks 12 = .ok (.invokevirtual 217, 3) := by decide +kernel
theorem dX8_asks_15 : decode cX8_asks 15 = .ok (.aload_n 0, 1) := by decide +kernel
theorem dX8_asks_16 : decode cX8_asks 16 = .ok (.getfield 7, 3) := by decide +kernel
theorem dX8_asks_19 : decode cX8_asks 19 = .ok (.iconst 0, 1) := by decide +kernel
theorem dX8_asks_20 : decode cX8_asks 20 = .ok (.iaload, 1) := by decide +kernel
theorem dX8_asks_21 : decode cX8_asks 21 = .ok (.iadd, 1) := by decide +kernel
theorem dX8_asks_22 : decode cX8_asks 22 = .ok (.aload_n 0, 1) := by decide +kernel
theorem dX8_asks_23 : decode cX8_asks 23 = .ok (.getfield 7, 3) := by decide +kernel
theorem dX8_asks_26 : decode cX8_asks 26 = .ok (.iconst 2, 1) := by decide +kernel
theorem dX8_asks_27 : decode cX8_asks 27 = .ok (.iaload, 1) := by decide +kernel
theorem dX8_asks_28 : decode cX8_asks 28 = .ok (.if_icmp .gt 7, 3) := by decide +kernel
theorem dX8_asks_31 : decode cX8_asks 31 = .ok (.iconst 1, 1) := by decide +kernel
theorem dX8_asks_32 : decode cX8_asks 32 = .ok (.goto 4, 3) := by decide +kernel
theorem dX8_asks_35 : decode cX8_asks 35 = .ok (.iconst 0, 1) := by decide +kernel
theorem dX8_asks_36 : decode cX8_asks 36 = .ok (.istore_n 2, 1) := by decide +kernel
theorem dX8_asks_37 : decode cX8_asks 37 = .ok (.aload_n 0, 1) := by decide +kernel
theorem dX8_asks_38 : decode cX8_asks 38 = .ok (.iload_n 1, 1) := by decide +kernel
theorem dX8_asks_39 : decode cX8_asks 39 = .ok (.iconst 0, 1) := by decide +kernel
theorem dX8_asks_40 : decode cX8_asks 40 = .ok (.invokevirtual 217, 3) := by decide +kernel
theorem dX8_asks_43 : decode cX8_asks 43 = .ok (.iconst 4, 1) := by decide +kernel
theorem dX8_asks_44 : decode cX8_asks 44 = .ok (.if_icmp .eq 33, 3) := by decide +kernel
theorem dX8_asks_47 : decode cX8_asks 47 = .ok (.aload_n 0, 1) := by decide +kernel
theorem dX8_asks_48 : decode cX8_asks 48 = .ok (.iload_n 1, 1) := by decide +kernel
theorem dX8_asks_49 : decode cX8_asks 49 = .ok (.invokevirtual 233, 3) := by decide +kernel
theorem dX8_asks_52 : decode cX8_asks 52 = .ok (.ifCond .eq 25, 3) := by decide +kernel
theorem dX8_asks_55 : decode cX8_asks 55 = .ok (.aload_n 0, 1) := by decide +kernel
theorem dX8_asks_56 : decode cX8_asks 56 = .ok (.iload_n 1, 1) := by decide +kernel
theorem dX8_asks_57 : decode cX8_asks 57 = .ok (.iconst 3, 1) := by decide +kernel
theorem dX8_asks_58 : decode cX8_asks 58 = .ok (.invokevirtual 217, 3) := by decide +kernel
theorem dX8_asks_61 : decode cX8_asks 61 = .ok (.iconst (-1), 1) := by decide +kernel
theorem dX8_asks_62 : decode cX8_asks 62 = .ok (.if_icmp .ne 15, 3) := by decide +kernel
theorem dX8_asks_65 : decode cX8_asks 65 = .ok (.aload_n 0, 1) := by decide +kernel
theorem dX8_asks_66 : decode cX8_asks 66 = .ok (.iload_n 1, 1) := by decide +kernel
theorem dX8_asks_67 : decode cX8_asks 67 = .ok (.invokevirtual 236, 3) := by decide +kernel
theorem dX8_asks_70 : decode cX8_asks 70 = .ok (.ifCond .ne 7, 3) := by decide +kernel
theorem dX8_asks_73 : decode cX8_asks 73 = .ok (.iload_n 2, 1) := by decide +kernel
theorem dX8_asks_74 : decode cX8_asks 74 = .ok (.ifCond .ne 4, 3) := by decide +kernel
theorem dX8_asks_77 : decode cX8_asks 77 = .ok (.return_, 1) := by decide +kernel
theorem dX8_asks_78 : decode cX8_asks 78 = .ok (.aload_n 0, 1) := by decide +kernel
theorem dX8_asks_79 : decode cX8_asks 79 = .ok (.getfield 46, 3) := by decide +kernel
theorem dX8_asks_82 : decode cX8_asks 82 = .ok (.iload_n 1, 1) := by decide +kernel
theorem dX8_asks_83 : decode cX8_asks 83 = .ok (.if_icmp .ne 17, 3) := by decide +kernel
theorem dX8_asks_86 : decode cX8_asks 86 = .ok (.aload_n 0, 1) := by decide +kernel
theorem dX8_asks_87 : decode cX8_asks 87 = .ok (.getfield 49, 3) := by decide +kernel
theorem dX8_asks_90 : decode cX8_asks 90 = .ok (.aload_n 0, 1) := by decide +kernel
theorem dX8_asks_91 : decode cX8_asks 91 = .ok (.iload_n 1, 1) := by decide +kernel
theorem dX8_asks_92 : decode cX8_asks 92 = .ok (.iconst 2, 1) := by decide +kernel
theorem dX8_asks_93 : decode cX8_asks 93 = .ok (.invokevirtual 217, 3) := by decide +kernel
theorem dX8_asks_96 : decode cX8_asks 96 = .ok (.iaload, 1) := by decide +kernel
theorem dX8_asks_97 : decode cX8_asks 97 = .ok (.goto 8, 3) := by decide +kernel
theorem dX8_asks_100 : decode cX8_asks 100 = .ok (.aload_n 0, 1) := by decide +kernel
theorem dX8_asks_101 : decode cX8_asks 101 = .ok (.iload_n 1, 1) := by decide +kernel
theorem dX8_asks_102 : decode cX8_asks 102 = .ok (.invokevirtual 239, 3) := by decide +kernel
theorem dX8_asks_105 : decode cX8_asks 105 = .ok (.istore_n 3, 1) := by decide +kernel
theorem dX8_asks_106 : decode cX8_asks 106 = .ok (.aload_n 0, 1) := by decide +kernel
theorem dX8_asks_107 : decode cX8_asks 107 = .ok (.iload_n 1, 1) := by decide +kernel
theorem dX8_asks_108 : decode cX8_asks 108 = .ok (.iconst 4, 1) := by decide +kernel
theorem dX8_asks_109 : decode cX8_asks 109 = .ok (.aload_n 0, 1) := by decide +kernel
theorem dX8_asks_110 : decode cX8_asks 110 = .ok (.iload_n 1, 1) := by decide +kernel
theorem dX8_asks_111 : decode cX8_asks 111 = .ok (.aload_n 0, 1) := by decide +kernel
theorem dX8_asks_112 : decode cX8_asks 112 = .ok (.iload_n 1, 1) := by decide +kernel
theorem dX8_asks_113 : decode cX8_asks 113 = .ok (.iconst 2, 1) := by decide +kernel
theorem dX8_asks_114 : decode cX8_asks 114 = .ok (.invokevirtual 217, 3) := by decide +kernel
theorem dX8_asks_117 : decode cX8_asks 117 = .ok (.iload_n 3, 1) := by decide +kernel
theorem dX8_asks_118 : decode cX8_asks 118 = .ok (.invokevirtual 223, 3) := by decide +kernel
theorem dX8_asks_121 : decode cX8_asks 121 = .ok (.invokevirtual 206, 3) := by decide +kernel
theorem dX8_asks_124 : decode cX8_asks 124 = .ok (.aload_n 0, 1) := by decide +kernel
theorem dX8_asks_125 : decode cX8_asks 125 = .ok (.iload_n 1, 1) := by decide +kernel
theorem dX8_asks_126 : decode cX8_asks 126 = .ok (.iconst 3, 1) := by decide +kernel
theorem dX8_asks_127 : decode cX8_asks 127 = .ok (.iload_n 3, 1) := by decide +kernel
theorem dX8_asks_128 : decode cX8_asks 128 = .ok (.invokevirtual 206, 3) := by decide +kernel
theorem dX8_asks_131 : decode cX8_asks 131 = .ok (.aload_n 0, 1) := by decide +kernel
theorem dX8_asks_132 : decode cX8_asks 132 = .ok (.iload_n 1, 1) := by decide +kernel
theorem dX8_asks_133 : decode cX8_asks 133 = .ok (.bipush 14, 2) := by decide +kernel
theorem dX8_asks_135 : decode cX8_asks 135 = .ok (.aload_n 0, 1) := by decide +kernel
theorem dX8_asks_136 : decode cX8_asks 136 = .ok (.getfield 17, 3) := by decide +kernel
theorem dX8_asks_139 : decode cX8_asks 139 = .ok (.iconst 0, 1) := by decide +kernel
theorem dX8_asks_140 : decode cX8_asks 140 = .ok (.iaload, 1) := by decide +kernel
theorem dX8_asks_141 : decode cX8_asks 141 = .ok (.invokevirtual 206, 3) := by decide +kernel
theorem dX8_asks_144 : decode cX8_asks 144 = .ok (.return_, 1) := by decide +kernel
theorem dX8_needs_0 : decode cX8_needs 0 = .ok (.aload_n 0, 1) := by decide +kernel
theorem dX8_needs_1 : decode cX8_needs 1 = .ok (.iload_n 1, 1) := by decide +kernel
theorem dX8_needs_2 : decode cX8_needs 2 = .ok (.iconst 0, 1) := by decide +kernel
theorem dX8_needs_3 : decode cX8_needs 3 = .ok (.invokevirtual 217, 3) := by decide +kernel
theorem dX8_needs_6 : decode cX8_needs 6 = .ok (.iconst 4, 1) := by decide +kernel
theorem dX8_needs_7 : decode cX8_needs 7 = .ok (.if_icmp .eq 26, 3) := by decide +kernel
theorem dX8_needs_10 : decode cX8_needs 10 = .ok (.aload_n 0, 1) := by decide +kernel
theorem dX8_needs_11 : decode cX8_needs 11 = .ok (.iload_n 1, 1) := by decide +kernel
theorem dX8_needs_12 : decode cX8_needs 12 = .ok (.iconst 3, 1) := by decide +kernel
theorem dX8_needs_13 : decode cX8_needs 13 = .ok (.invokevirtual 217, 3) := by decide +kernel
theorem dX8_needs_16 : decode cX8_needs 16 = .ok (.iconst (-1), 1) := by decide +kernel
theorem dX8_needs_17 : decode cX8_needs 17 = .ok (.if_icmp .eq 16, 3) := by decide +kernel
theorem dX8_needs_20 : decode cX8_needs 20 = .ok (.aload_n 0, 1) := by decide +kernel
theorem dX8_needs_21 : decode cX8_needs 21 = .ok (.iload_n 1, 1) := by decide +kernel
theorem dX8_needs_22 : decode cX8_needs 22 = .ok (.iconst 4, 1) := by decide +kernel
theorem dX8_needs_23 : decode cX8_needs 23 = .ok (.invokevirtual 217, 3) := by decide +kernel
theorem dX8_needs_26 : decode cX8_needs 26 = .ok (.ifCond .le 7, 3) := by decide +kernel
theorem dX8_needs_29 : decode cX8_needs 29 = .ok (.iconst 1, 1) := by decide +kernel
theorem dX8_needs_30 : decode cX8_needs 30 = .ok (.goto 4, 3) := by decide +kernel
theorem dX8_needs_33 : decode cX8_needs 33 = .ok (.iconst 0, 1) := by decide +kernel
theorem dX8_needs_34 : decode cX8_needs 34 = .ok (.ireturn, 1) := by decide +kernel
theorem dX8_gets_0 : decode cX8_gets 0 = .ok (.iload_n 2, 1) := by decide +kernel
theorem dX8_gets_1 : decode cX8_gets 1 = .ok (.aload_n 0, 1) := by decide +kernel
theorem dX8_gets_2 : decode cX8_gets 2 = .ok (.iload_n 1, 1) := by decide +kernel
theorem dX8_gets_3 : decode cX8_gets 3 = .ok (.iconst 4, 1) := by decide +kernel
theorem dX8_gets_4 : decode cX8_gets 4 = .ok (.invokevirtual 217, 3) := by decide +kernel
theorem dX8_gets_7 : decode cX8_gets 7 = .ok (.if_icmp .ge 7, 3) := by decide +kernel
theorem dX8_gets_10 : decode cX8_gets 10 = .ok (.iload_n 2, 1) := by decide +kernel
theorem dX8_gets_11 : decode cX8_gets 11 = .ok (.goto 9, 3) := by decide +kernel
theorem dX8_gets_14 : decode cX8_gets 14 = .ok (.aload_n 0, 1) := by decide +kernel
theorem dX8_gets_15 : decode cX8_gets 15 = .ok (.iload_n 1, 1) := by decide +kernel
theorem dX8_gets_16 : decode cX8_gets 16 = .ok (.iconst 4, 1) := by decide +kernel
theorem dX8_gets_17 : decode cX8_gets 17 = .ok (.invokevirtual 217, 3) := by decide +kernel
theorem dX8_gets_20 : decode cX8_gets 20 = .ok (.istore_n 3, 1) := by decide +kernel
theorem dX8_gets_21 : decode cX8_gets 21 = .ok (.aload_n 0, 1) := by decide +kernel
theorem dX8_gets_22 : decode cX8_gets 22 = .ok (.iload_n 1, 1) := by decide +kernel
theorem dX8_gets_23 : decode cX8_gets 23 = .ok (.iconst 4, 1) := by decide +kernel
theorem dX8_gets_24 : decode cX8_gets 24 = .ok (.iload_n 3, 1) := by decide +kernel
theorem dX8_gets_25 : decode cX8_gets 25 = .ok (.ineg, 1) := by decide +kernel
theorem dX8_gets_26 : decode cX8_gets 26 = .ok (.invokevirtual 242, 3) := by decide +kernel
theorem dX8_gets_29 : decode cX8_gets 29 = .ok (.aload_n 0, 1) := by decide +kernel
theorem dX8_gets_30 : decode cX8_gets 30 = .ok (.iload_n 1, 1) := by decide +kernel
theorem dX8_gets_31 : decode cX8_gets 31 = .ok (.bipush 10, 2) := by decide +kernel
theorem dX8_gets_33 : decode cX8_gets 33 = .ok (.iload_n 3, 1) := by decide +kernel
theorem dX8_gets_34 : decode cX8_gets 34 = .ok (.invokevirtual 242, 3) := by decide +kernel
theorem dX8_gets_37 : decode cX8_gets 37 = .ok (.iload_n 3, 1) := by decide +kernel
theorem dX8_gets_38 : decode cX8_gets 38 = .ok (.ireturn, 1) := by decide +kernel
theorem dX8_weights_0 : decode cX8_weights 0 = .ok (.iconst 0, 1) := by decide +kernel
theorem dX8_weights_1 : decode cX8_weights 1 = .ok (.istore_n 1, 1) := by decide +kernel
theorem dX8_weights_2 : decode cX8_weights 2 = .ok (.iconst 0, 1) := by decide +kernel
theorem dX8_weights_3 : decode cX8_weights 3 = .ok (.istore_n 2, 1) := by decide +kernel
theorem dX8_weights_4 : decode cX8_weights 4 = .ok (.iload_n 2, 1) := by decide +kernel
theorem dX8_weights_5 : decode cX8_weights 5 = .ok (.aload_n 0, 1) := by decide +kernel
theorem dX8_weights_6 : decode cX8_weights 6 = .ok (.getfield 7, 3) := by decide +kernel
theorem dX8_weights_9 : decode cX8_weights 9 = .ok (.iconst 4, 1) := by decide +kernel
theorem dX8_weights_10 : decode cX8_weights 10 = .ok (.iaload, 1) := by decide +kernel
theorem dX8_weights_11 : decode cX8_weights 11 = .ok (.if_icmp .ge 31, 3) := by decide +kernel
theorem dX8_weights_14 : decode cX8_weights 14 = .ok (.iload_n 1, 1) := by decide +kernel
theorem dX8_weights_15 : decode cX8_weights 15 = .ok (.aload_n 0, 1) := by decide +kernel
theorem dX8_weights_16 : decode cX8_weights 16 = .ok (.iload_n 2, 1) := by decide +kernel
theorem dX8_weights_17 : decode cX8_weights 17 = .ok (.invokevirtual 245, 3) := by decide +kernel
theorem dX8_weights_20 : decode cX8_weights 20 = .ok (.ifCond .eq 13, 3) := by decide +kernel
theorem dX8_weights_23 : decode cX8_weights 23 = .ok (.aload_n 0, 1) := by decide +kernel
theorem dX8_weights_24 : decode cX8_weights 24 = .ok (.iload_n 2, 1) := by decide +kernel
theorem dX8_weights_25 : decode cX8_weights 25 = .ok (.bipush 13, 2) := by decide +kernel
theorem dX8_weights_27 : decode cX8_weights 27 = .ok (.invokevirtual 217, 3) := by decide +kernel
theorem dX8_weights_30 : decode cX8_weights 30 = .ok (.goto 4, 3) := by decide +kernel
theorem dX8_weights_33 : decode cX8_weights 33 = .ok (.iconst 0, 1) := by decide +kernel
theorem dX8_weights_34 : decode cX8_weights 34 = .ok (.iadd, 1) := by decide +kernel
theorem dX8_weights_35 : decode cX8_weights 35 = .ok (.istore_n 1, 1) := by decide +kernel
theorem dX8_weights_36 : decode cX8_weights 36 = .ok (.iinc 2 1, 3) := by decide +kernel
theorem dX8_weights_39 : decode cX8_weights 39 = .ok (.goto (-35), 3) := by decide +kernel
theorem dX8_weights_42 : decode cX8_weights 42 = .ok (.iload_n 1, 1) := by decide +kernel
theorem dX8_weights_43 : decode cX8_weights 43 = .ok (.ireturn, 1) := by decide +kernel
theorem dX8_givesByWeights_0 : decode cX8_givesByWeights 0 = .ok (.iconst 0, 1) := by decide +kernel
theorem dX8_givesByWeights_1 : decode cX8_givesByWeights 1 = .ok (.istore_n 3, 1) := by decide +kernel
theorem dX8_givesByWeights_2 : decode cX8_givesByWeights 2 = .ok (.iconst 0, 1) := by decide +kernel
theorem dX8_givesByWeights_3 : decode cX8_givesByWeights 3 = .ok (.istore 4, 2) := by decide +kernel
theorem dX8_givesByWeights_5 : decode cX8_givesByWeights 5 = .ok (.iload 4, 2) := by decide +kernel
theorem dX8_givesByWeights_7 : decode cX8_givesByWeights 7 = .ok (.aload_n 0, 1) := by decide +kernel
theorem dX8_givesByWeights_8 : decode cX8_givesByWeights 8 = .ok (.getfield 7, 3) := by decide +kernel
theorem dX8_givesByWeights_11 : decode cX8_givesByWeights 11 = .ok (.iconst 4, 1) := by decide +kernel
theorem dX8_givesByWeights_12 : decode cX8_givesByWeights 12 = .ok (.iaload, 1) := by decide +kernel
theorem dX8_givesByWeights_13 : decode cX8_givesByWeights 13 = .ok (.if_icmp .ge 43, 3) := by decide +kernel
theorem dX8_givesByWeights_16 : decode cX8_givesByWeights 16 = .ok (.iload_n 3, 1) := by decide +kernel
theorem dX8_givesByWeights_17 : decode cX8_givesByWeights 17 = .ok (.aload_n 0, 1) := by decide +kernel
theorem dX8_givesByWeights_18 : decode cX8_givesByWeights 18 = .ok (.iload 4, 2) := by decide +kernel
theorem dX8_givesByWeights_20 : decode cX8_givesByWeights 20 = .ok (.invokevirtual 245, 3) := by decide +kernel
theorem dX8_givesByWeights_23 : decode cX8_givesByWeights 23 = .ok (.ifCond .eq 24, 3) := by decide +kernel
theorem dX8_givesByWeights_26 : decode cX8_givesByWeights 26 = .ok (.aload_n 0, 1) := by decide +kernel
theorem dX8_givesByWeights_27 : decode cX8_givesByWeights 27 = .ok (.iload 4, 2) := by decide +kernel
theorem dX8_givesByWeights_29 : decode cX8_givesByWeights 29 = .ok (.iload_n 1, 1) := by decide +kernel
theorem dX8_givesByWeights_30 : decode cX8_givesByWeights 30 = .ok (.aload_n 0, 1) := by decide +kernel
theorem dX8_givesByWeights_31 : decode cX8_givesByWeights 31 = .ok (.iload 4, 2) := by decide +kernel
theorem dX8_givesByWeights_33 : decode cX8_givesByWeights 33 = .ok (.bipush 13, 2) := by decide +kernel
theorem dX8_givesByWeights_35 : decode cX8_givesByWeights 35 = .ok (.invokevirtual 217, 3) := by decide +kernel
theorem dX8_givesByWeights_38 : decode cX8_givesByWeights 38 = .ok (.imul, 1) := by decide +kernel
theorem dX8_givesByWeights_39 : decode cX8_givesByWeights 39 = .ok (.iload_n 2, 1) := by decide +kernel
theorem dX8_givesByWeights_40 : decode cX8_givesByWeights 40 = .ok (.idiv, 1) := by decide +kernel
theorem dX8_givesByWeights_41 : decode cX8_givesByWeights 41 = .ok (.invokevirtual 248, 3) := by decide +kernel
theorem dX8_givesByWeights_44 : decode cX8_givesByWeights 44 = .ok (.goto 4, 3) := by decide +kernel
theorem dX8_givesByWeights_47 : decode cX8_givesByWeights 47 = .ok (.iconst 0, 1) := by decide +kernel
theorem dX8_givesByWeights_48 : decode cX8_givesByWeights 48 = .ok (.iadd, 1) := by decide +kernel
theorem dX8_givesByWeights_49 : decode cX8_givesByWeights 49 = .ok (.istore_n 3, 1) := by decide +kernel
theorem dX8_givesByWeights_50 : decode cX8_givesByWeights 50 = .ok (.iinc 4 1, 3) := by decide +kernel
theorem dX8_givesByWeights_53 : decode cX8_givesByWeights 53 = .ok (.goto (-48), 3) := by decide +kernel
theorem dX8_givesByWeights_56 : decode cX8_givesByWeights 56 = .ok (.iload_n 3, 1) := by decide +kernel
theorem dX8_givesByWeights_57 : decode cX8_givesByWeights 57 = .ok (.ireturn, 1) := by decide +kernel
theorem dX8_givesOnes_0 : decode cX8_givesOnes 0 = .ok (.iconst 0, 1) := by decide +kernel
theorem dX8_givesOnes_1 : decode cX8_givesOnes 1 = .ok (.istore_n 2, 1) := by decide +kernel
theorem dX8_givesOnes_2 : decode cX8_givesOnes 2 = .ok (.iconst 0, 1) := by decide +kernel
theorem dX8_givesOnes_3 : decode cX8_givesOnes 3 = .ok (.istore_n 3, 1) := by decide +kernel
theorem dX8_givesOnes_4 : decode cX8_givesOnes 4 = .ok (.iload_n 3, 1) := by decide +kernel
theorem dX8_givesOnes_5 : decode cX8_givesOnes 5 = .ok (.aload_n 0, 1) := by decide +kernel
theorem dX8_givesOnes_6 : decode cX8_givesOnes 6 = .ok (.getfield 7, 3) := by decide +kernel
theorem dX8_givesOnes_9 : decode cX8_givesOnes 9 = .ok (.iconst 4, 1) := by decide +kernel
theorem dX8_givesOnes_10 : decode cX8_givesOnes 10 = .ok (.iaload, 1) := by decide +kernel
theorem dX8_givesOnes_11 : decode cX8_givesOnes 11 = .ok (.if_icmp .ge 35, 3) := by decide +kernel
theorem dX8_givesOnes_14 : decode cX8_givesOnes 14 = .ok (.iload_n 2, 1) := by decide +kernel
theorem dX8_givesOnes_15 : decode cX8_givesOnes 15 = .ok (.iload_n 1, 1) := by decide +kernel
theorem dX8_givesOnes_16 : decode cX8_givesOnes 16 = .ok (.if_icmp .ge 30, 3) := by decide +kernel
theorem dX8_givesOnes_19 : decode cX8_givesOnes 19 = .ok (.iload_n 2, 1) := by decide +kernel
theorem dX8_givesOnes_20 : decode cX8_givesOnes 20 = .ok (.aload_n 0, 1) := by decide +kernel
theorem dX8_givesOnes_21 : decode cX8_givesOnes 21 = .ok (.iload_n 3, 1) := by decide +kernel
theorem dX8_givesOnes_22 : decode cX8_givesOnes 22 = .ok (.invokevirtual 245, 3) := by decide +kernel
theorem dX8_givesOnes_25 : decode cX8_givesOnes 25 = .ok (.ifCond .eq 12, 3) := by decide +kernel
theorem dX8_givesOnes_28 : decode cX8_givesOnes 28 = .ok (.aload_n 0, 1) := by decide +kernel
theorem dX8_givesOnes_29 : decode cX8_givesOnes 29 = .ok (.iload_n 3, 1) := by decide +kernel
theorem dX8_givesOnes_30 : decode cX8_givesOnes 30 = .ok (.iconst 1, 1) := by decide +kernel
theorem dX8_givesOnes_31 : decode cX8_givesOnes 31 = .ok (.invokevirtual 248, 3) := by decide +kernel
theorem dX8_givesOnes_34 : decode cX8_givesOnes 34 = .ok (.goto 4, 3) := by decide +kernel
theorem dX8_givesOnes_37 : decode cX8_givesOnes 37 = .ok (.iconst 0, 1) := by decide +kernel
theorem dX8_givesOnes_38 : decode cX8_givesOnes 38 = .ok (.iadd, 1) := by decide +kernel
theorem dX8_givesOnes_39 : decode cX8_givesOnes 39 = .ok (.istore_n 2, 1) := by decide +kernel
theorem dX8_givesOnes_40 : decode cX8_givesOnes 40 = .ok (.iinc 3 1, 3) := by decide +kernel
theorem dX8_givesOnes_43 : decode cX8_givesOnes 43 = .ok (.goto (-39), 3) := by decide +kernel
theorem dX8_givesOnes_46 : decode cX8_givesOnes 46 = .ok (.iload_n 2, 1) := by decide +kernel
theorem dX8_givesOnes_47 : decode cX8_givesOnes 47 = .ok (.ireturn, 1) := by decide +kernel
theorem dX8_shares_0 : decode cX8_shares 0 = .ok (.aload_n 0, 1) := by decide +kernel
theorem dX8_shares_1 : decode cX8_shares 1 = .ok (.aload_n 0, 1) := by decide +kernel
theorem dX8_shares_2 : decode cX8_shares 2 = .ok (.getfield 17, 3) := by decide +kernel
theorem dX8_shares_5 : decode cX8_shares 5 = .ok (.iconst 0, 1) := by decide +kernel
theorem dX8_shares_6 : decode cX8_shares 6 = .ok (.iaload, 1) := by decide +kernel
theorem dX8_shares_7 : decode cX8_shares 7 = .ok (.invokevirtual 251, 3) := by decide +kernel
theorem dX8_shares_10 : decode cX8_shares 10 = .ok (.istore_n 1, 1) := by decide +kernel
theorem dX8_shares_11 : decode cX8_shares 11 = .ok (.aload_n 0, 1) := by decide +kernel
theorem dX8_shares_12 : decode cX8_shares 12 = .ok (.invokevirtual 254, 3) := by decide +kernel
theorem dX8_shares_15 : decode cX8_shares 15 = .ok (.istore_n 2, 1) := by decide +kernel
theorem dX8_shares_16 : decode cX8_shares 16 = .ok (.aload_n 0, 1) := by decide +kernel
theorem dX8_shares_17 : decode cX8_shares 17 = .ok (.getfield 17, 3) := by decide +kernel
theorem dX8_shares_20 : decode cX8_shares 20 = .ok (.bipush 9, 2) := by decide +kernel
theorem dX8_shares_22 : decode cX8_shares 22 = .ok (.dup2, 1) := by decide +kernel
theorem dX8_shares_23 : decode cX8_shares 23 = .ok (.iaload, 1) := by decide +kernel
theorem dX8_shares_24 : decode cX8_shares 24 = .ok (.iload_n 1, 1) := by decide +kernel
theorem dX8_shares_25 : decode cX8_shares 25 = .ok (.iadd, 1) := by decide +kernel
theorem dX8_shares_26 : decode cX8_shares 26 = .ok (.iastore, 1) := by decide +kernel
theorem dX8_shares_27 : decode cX8_shares 27 = .ok (.iload_n 1, 1) := by decide +kernel
theorem dX8_shares_28 : decode cX8_shares 28 = .ok (.ifCond .le 38, 3) := by decide +kernel
theorem dX8_shares_31 : decode cX8_shares 31 = .ok (.iload_n 2, 1) := by decide +kernel
theorem dX8_shares_32 : decode cX8_shares 32 = .ok (.ifCond .le 34, 3) := by decide +kernel
theorem dX8_shares_35 : decode cX8_shares 35 = .ok (.aload_n 0, 1) := by decide +kernel
theorem dX8_shares_36 : decode cX8_shares 36 = .ok (.iload_n 1, 1) := by decide +kernel
theorem dX8_shares_37 : decode cX8_shares 37 = .ok (.iload_n 2, 1) := by decide +kernel
theorem dX8_shares_38 : decode cX8_shares 38 = .ok (.invokevirtual 257, 3) := by decide +kernel
theorem dX8_shares_41 : decode cX8_shares 41 = .ok (.istore_n 3, 1) := by decide +kernel
theorem dX8_shares_42 : decode cX8_shares 42 = .ok (.iload_n 1, 1) := by decide +kernel
theorem dX8_shares_43 : decode cX8_shares 43 = .ok (.iload_n 3, 1) := by decide +kernel
theorem dX8_shares_44 : decode cX8_shares 44 = .ok (.ifCond .le 7, 3) := by decide +kernel
theorem dX8_shares_47 : decode cX8_shares 47 = .ok (.iload_n 3, 1) := by decide +kernel
theorem dX8_shares_48 : decode cX8_shares 48 = .ok (.goto 8, 3) := by decide +kernel
theorem dX8_shares_51 : decode cX8_shares 51 = .ok (.aload_n 0, 1) := by decide +kernel
theorem dX8_shares_52 : decode cX8_shares 52 = .ok (.iload_n 1, 1) := by decide +kernel
theorem dX8_shares_53 : decode cX8_shares 53 = .ok (.invokevirtual 260, 3) := by decide +kernel
theorem dX8_shares_56 : decode cX8_shares 56 = .ok (.isub, 1) := by decide +kernel
theorem dX8_shares_57 : decode cX8_shares 57 = .ok (.istore_n 1, 1) := by decide +kernel
theorem dX8_shares_58 : decode cX8_shares 58 = .ok (.aload_n 0, 1) := by decide +kernel
theorem dX8_shares_59 : decode cX8_shares 59 = .ok (.invokevirtual 254, 3) := by decide +kernel
theorem dX8_shares_62 : decode cX8_shares 62 = .ok (.istore_n 2, 1) := by decide +kernel
theorem dX8_shares_63 : decode cX8_shares 63 = .ok (.goto (-36), 3) := by decide +kernel
theorem dX8_shares_66 : decode cX8_shares 66 = .ok (.aload_n 0, 1) := by decide +kernel
theorem dX8_shares_67 : decode cX8_shares 67 = .ok (.getfield 17, 3) := by decide +kernel
theorem dX8_shares_70 : decode cX8_shares 70 = .ok (.bipush 9, 2) := by decide +kernel
theorem dX8_shares_72 : decode cX8_shares 72 = .ok (.dup2, 1) := by decide +kernel
theorem dX8_shares_73 : decode cX8_shares 73 = .ok (.iaload, 1) := by decide +kernel
theorem dX8_shares_74 : decode cX8_shares 74 = .ok (.iload_n 1, 1) := by decide +kernel
theorem dX8_shares_75 : decode cX8_shares 75 = .ok (.isub, 1) := by decide +kernel
theorem dX8_shares_76 : decode cX8_shares 76 = .ok (.iastore, 1) := by decide +kernel
theorem dX8_shares_77 : decode cX8_shares 77 = .ok (.aload_n 0, 1) := by decide +kernel
theorem dX8_shares_78 : decode cX8_shares 78 = .ok (.getfield 17, 3) := by decide +kernel
theorem dX8_shares_81 : decode cX8_shares 81 = .ok (.bipush 10, 2) := by decide +kernel
theorem dX8_shares_83 : decode cX8_shares 83 = .ok (.dup2, 1) := by decide +kernel
theorem dX8_shares_84 : decode cX8_shares 84 = .ok (.iaload, 1) := by decide +kernel
theorem dX8_shares_85 : decode cX8_shares 85 = .ok (.iload_n 1, 1) := by decide +kernel
theorem dX8_shares_86 : decode cX8_shares 86 = .ok (.iadd, 1) := by decide +kernel
theorem dX8_shares_87 : decode cX8_shares 87 = .ok (.iastore, 1) := by decide +kernel
theorem dX8_shares_88 : decode cX8_shares 88 = .ok (.return_, 1) := by decide +kernel
theorem dX8_comes_0 : decode cX8_comes 0 = .ok (.aload_n 0, 1) := by decide +kernel
theorem dX8_comes_1 : decode cX8_comes 1 = .ok (.iload_n 1, 1) := by decide +kernel
theorem dX8_comes_2 : decode cX8_comes 2 = .ok (.iconst 2, 1) := by decide +kernel
theorem dX8_comes_3 : decode cX8_comes 3 = .ok (.invokevirtual 217, 3) := by decide +kernel
theorem dX8_comes_6 : decode cX8_comes 6 = .ok (.istore_n 2, 1) := by decide +kernel
theorem dX8_comes_7 : decode cX8_comes 7 = .ok (.aload_n 0, 1) := by decide +kernel
theorem dX8_comes_8 : decode cX8_comes 8 = .ok (.iload_n 1, 1) := by decide +kernel
theorem dX8_comes_9 : decode cX8_comes 9 = .ok (.iconst 3, 1) := by decide +kernel
theorem dX8_comes_10 : decode cX8_comes 10 = .ok (.invokevirtual 217, 3) := by decide +kernel
theorem dX8_comes_13 : decode cX8_comes 13 = .ok (.istore_n 3, 1) := by decide +kernel
theorem dX8_comes_14 : decode cX8_comes 14 = .ok (.aload_n 0, 1) := by decide +kernel
theorem dX8_comes_15 : decode cX8_comes 15 = .ok (.iload_n 1, 1) := by decide +kernel
theorem dX8_comes_16 : decode cX8_comes 16 = .ok (.iconst 1, 1) := by decide +kernel
theorem dX8_comes_17 : decode cX8_comes 17 = .ok (.aload_n 0, 1) := by decide +kernel
theorem dX8_comes_18 : decode cX8_comes 18 = .ok (.getfield 7, 3) := by decide +kernel
theorem dX8_comes_21 : decode cX8_comes 21 = .ok (.iconst 0, 1) := by decide +kernel
theorem dX8_comes_22 : decode cX8_comes 22 = .ok (.iaload, 1) := by decide +kernel
theorem dX8_comes_23 : decode cX8_comes 23 = .ok (.invokevirtual 242, 3) := by decide +kernel
theorem dX8_comes_26 : decode cX8_comes 26 = .ok (.aload_n 0, 1) := by decide +kernel
theorem dX8_comes_27 : decode cX8_comes 27 = .ok (.iload_n 1, 1) := by decide +kernel
theorem dX8_comes_28 : decode cX8_comes 28 = .ok (.bipush 8, 2) := by decide +kernel
theorem dX8_comes_30 : decode cX8_comes 30 = .ok (.iload_n 2, 1) := by decide +kernel
theorem dX8_comes_31 : decode cX8_comes 31 = .ok (.ifCond .le 24, 3) := by decide +kernel
theorem dX8_comes_34 : decode cX8_comes 34 = .ok (.aload_n 0, 1) := by decide +kernel
theorem dX8_comes_35 : decode cX8_comes 35 = .ok (.iload_n 1, 1) := by decide +kernel
theorem dX8_comes_36 : decode cX8_comes 36 = .ok (.bipush 15, 2) := by decide +kernel
theorem dX8_comes_38 : decode cX8_comes 38 = .ok (.iconst 3, 1) := by decide +kernel
theorem dX8_comes_39 : decode cX8_comes 39 = .ok (.iload_n 2, 1) := by decide +kernel
theorem dX8_comes_40 : decode cX8_comes 40 = .ok (.imul, 1) := by decide +kernel
theorem dX8_comes_41 : decode cX8_comes 41 = .ok (.iadd, 1) := by decide +kernel
theorem dX8_comes_42 : decode cX8_comes 42 = .ok (.iconst 3, 1) := by decide +kernel
theorem dX8_comes_43 : decode cX8_comes 43 = .ok (.isub, 1) := by decide +kernel
theorem dX8_comes_44 : decode cX8_comes 44 = .ok (.invokevirtual 217, 3) := by decide +kernel
theorem dX8_comes_47 : decode cX8_comes 47 = .ok (.iload_n 3, 1) := by decide +kernel
theorem dX8_comes_48 : decode cX8_comes 48 = .ok (.if_icmp .eq 7, 3) := by decide +kernel
theorem dX8_comes_51 : decode cX8_comes 51 = .ok (.iconst 1, 1) := by decide +kernel
theorem dX8_comes_52 : decode cX8_comes 52 = .ok (.goto 4, 3) := by decide +kernel
theorem dX8_comes_55 : decode cX8_comes 55 = .ok (.iconst 0, 1) := by decide +kernel
theorem dX8_comes_56 : decode cX8_comes 56 = .ok (.invokevirtual 242, 3) := by decide +kernel
theorem dX8_comes_59 : decode cX8_comes 59 = .ok (.aload_n 0, 1) := by decide +kernel
theorem dX8_comes_60 : decode cX8_comes 60 = .ok (.iload_n 1, 1) := by decide +kernel
theorem dX8_comes_61 : decode cX8_comes 61 = .ok (.bipush 9, 2) := by decide +kernel
theorem dX8_comes_63 : decode cX8_comes 63 = .ok (.iload_n 3, 1) := by decide +kernel
theorem dX8_comes_64 : decode cX8_comes 64 = .ok (.invokevirtual 242, 3) := by decide +kernel
theorem dX8_comes_67 : decode cX8_comes 67 = .ok (.aload_n 0, 1) := by decide +kernel
theorem dX8_comes_68 : decode cX8_comes 68 = .ok (.iload_n 1, 1) := by decide +kernel
theorem dX8_comes_69 : decode cX8_comes 69 = .ok (.bipush 11, 2) := by decide +kernel
theorem dX8_comes_71 : decode cX8_comes 71 = .ok (.aload_n 0, 1) := by decide +kernel
theorem dX8_comes_72 : decode cX8_comes 72 = .ok (.iload_n 1, 1) := by decide +kernel
theorem dX8_comes_73 : decode cX8_comes 73 = .ok (.iload_n 2, 1) := by decide +kernel
theorem dX8_comes_74 : decode cX8_comes 74 = .ok (.iload_n 3, 1) := by decide +kernel
theorem dX8_comes_75 : decode cX8_comes 75 = .ok (.invokevirtual 223, 3) := by decide +kernel
theorem dX8_comes_78 : decode cX8_comes 78 = .ok (.aload_n 0, 1) := by decide +kernel
theorem dX8_comes_79 : decode cX8_comes 79 = .ok (.getfield 17, 3) := by decide +kernel
theorem dX8_comes_82 : decode cX8_comes 82 = .ok (.iconst 0, 1) := by decide +kernel
theorem dX8_comes_83 : decode cX8_comes 83 = .ok (.iaload, 1) := by decide +kernel
theorem dX8_comes_84 : decode cX8_comes 84 = .ok (.aload_n 0, 1) := by decide +kernel
theorem dX8_comes_85 : decode cX8_comes 85 = .ok (.iload_n 1, 1) := by decide +kernel
theorem dX8_comes_86 : decode cX8_comes 86 = .ok (.bipush 14, 2) := by decide +kernel
theorem dX8_comes_88 : decode cX8_comes 88 = .ok (.invokevirtual 217, 3) := by decide +kernel
theorem dX8_comes_91 : decode cX8_comes 91 = .ok (.isub, 1) := by decide +kernel
theorem dX8_comes_92 : decode cX8_comes 92 = .ok (.iconst 1, 1) := by decide +kernel
theorem dX8_comes_93 : decode cX8_comes 93 = .ok (.iadd, 1) := by decide +kernel
theorem dX8_comes_94 : decode cX8_comes 94 = .ok (.idiv, 1) := by decide +kernel
theorem dX8_comes_95 : decode cX8_comes 95 = .ok (.invokevirtual 206, 3) := by decide +kernel
theorem dX8_comes_98 : decode cX8_comes 98 = .ok (.aload_n 0, 1) := by decide +kernel
theorem dX8_comes_99 : decode cX8_comes 99 = .ok (.iload_n 1, 1) := by decide +kernel
theorem dX8_comes_100 : decode cX8_comes 100 = .ok (.bipush 15, 2) := by decide +kernel
theorem dX8_comes_102 : decode cX8_comes 102 = .ok (.iconst 3, 1) := by decide +kernel
theorem dX8_comes_103 : decode cX8_comes 103 = .ok (.iload_n 2, 1) := by decide +kernel
theorem dX8_comes_104 : decode cX8_comes 104 = .ok (.imul, 1) := by decide +kernel
theorem dX8_comes_105 : decode cX8_comes 105 = .ok (.iadd, 1) := by decide +kernel
theorem dX8_comes_106 : decode cX8_comes 106 = .ok (.iload_n 3, 1) := by decide +kernel
theorem dX8_comes_107 : decode cX8_comes 107 = .ok (.invokevirtual 206, 3) := by decide +kernel
theorem dX8_comes_110 : decode cX8_comes 110 = .ok (.aload_n 0, 1) := by decide +kernel
theorem dX8_comes_111 : decode cX8_comes 111 = .ok (.iload_n 1, 1) := by decide +kernel
theorem dX8_comes_112 : decode cX8_comes 112 = .ok (.bipush 15, 2) := by decide +kernel
theorem dX8_comes_114 : decode cX8_comes 114 = .ok (.iconst 3, 1) := by decide +kernel
theorem dX8_comes_115 : decode cX8_comes 115 = .ok (.iload_n 2, 1) := by decide +kernel
theorem dX8_comes_116 : decode cX8_comes 116 = .ok (.imul, 1) := by decide +kernel
theorem dX8_comes_117 : decode cX8_comes 117 = .ok (.iadd, 1) := by decide +kernel
theorem dX8_comes_118 : decode cX8_comes 118 = .ok (.iconst 1, 1) := by decide +kernel
theorem dX8_comes_119 : decode cX8_comes 119 = .ok (.iadd, 1) := by decide +kernel
theorem dX8_comes_120 : decode cX8_comes 120 = .ok (.aload_n 0, 1) := by decide +kernel
theorem dX8_comes_121 : decode cX8_comes 121 = .ok (.iload_n 1, 1) := by decide +kernel
theorem dX8_comes_122 : decode cX8_comes 122 = .ok (.bipush 14, 2) := by decide +kernel
theorem dX8_comes_124 : decode cX8_comes 124 = .ok (.invokevirtual 217, 3) := by decide +kernel
theorem dX8_comes_127 : decode cX8_comes 127 = .ok (.invokevirtual 206, 3) := by decide +kernel
theorem dX8_comes_130 : decode cX8_comes 130 = .ok (.aload_n 0, 1) := by decide +kernel
theorem dX8_comes_131 : decode cX8_comes 131 = .ok (.iload_n 1, 1) := by decide +kernel
theorem dX8_comes_132 : decode cX8_comes 132 = .ok (.bipush 15, 2) := by decide +kernel
theorem dX8_comes_134 : decode cX8_comes 134 = .ok (.iconst 3, 1) := by decide +kernel
theorem dX8_comes_135 : decode cX8_comes 135 = .ok (.iload_n 2, 1) := by decide +kernel
theorem dX8_comes_136 : decode cX8_comes 136 = .ok (.imul, 1) := by decide +kernel
theorem dX8_comes_137 : decode cX8_comes 137 = .ok (.iadd, 1) := by decide +kernel
theorem dX8_comes_138 : decode cX8_comes 138 = .ok (.iconst 2, 1) := by decide +kernel
theorem dX8_comes_139 : decode cX8_comes 139 = .ok (.iadd, 1) := by decide +kernel
theorem dX8_comes_140 : decode cX8_comes 140 = .ok (.aload_n 0, 1) := by decide +kernel
theorem dX8_comes_141 : decode cX8_comes 141 = .ok (.getfield 17, 3) := by decide +kernel
theorem dX8_comes_144 : decode cX8_comes 144 = .ok (.iconst 0, 1) := by decide +kernel
theorem dX8_comes_145 : decode cX8_comes 145 = .ok (.iaload, 1) := by decide +kernel
theorem dX8_comes_146 : decode cX8_comes 146 = .ok (.invokevirtual 206, 3) := by decide +kernel
theorem dX8_comes_149 : decode cX8_comes 149 = .ok (.aload_n 0, 1) := by decide +kernel
theorem dX8_comes_150 : decode cX8_comes 150 = .ok (.iload_n 1, 1) := by decide +kernel
theorem dX8_comes_151 : decode cX8_comes 151 = .ok (.iconst 2, 1) := by decide +kernel
theorem dX8_comes_152 : decode cX8_comes 152 = .ok (.iload_n 2, 1) := by decide +kernel
theorem dX8_comes_153 : decode cX8_comes 153 = .ok (.iconst 1, 1) := by decide +kernel
theorem dX8_comes_154 : decode cX8_comes 154 = .ok (.iadd, 1) := by decide +kernel
theorem dX8_comes_155 : decode cX8_comes 155 = .ok (.invokevirtual 206, 3) := by decide +kernel
theorem dX8_comes_158 : decode cX8_comes 158 = .ok (.aload_n 0, 1) := by decide +kernel
theorem dX8_comes_159 : decode cX8_comes 159 = .ok (.iload_n 1, 1) := by decide +kernel
theorem dX8_comes_160 : decode cX8_comes 160 = .ok (.iconst 3, 1) := by decide +kernel
theorem dX8_comes_161 : decode cX8_comes 161 = .ok (.iconst (-1), 1) := by decide +kernel
theorem dX8_comes_162 : decode cX8_comes 162 = .ok (.invokevirtual 206, 3) := by decide +kernel
theorem dX8_comes_165 : decode cX8_comes 165 = .ok (.aload_n 0, 1) := by decide +kernel
theorem dX8_comes_166 : decode cX8_comes 166 = .ok (.getfield 17, 3) := by decide +kernel
theorem dX8_comes_169 : decode cX8_comes 169 = .ok (.bipush 12, 2) := by decide +kernel
theorem dX8_comes_171 : decode cX8_comes 171 = .ok (.dup2, 1) := by decide +kernel
theorem dX8_comes_172 : decode cX8_comes 172 = .ok (.iaload, 1) := by decide +kernel
theorem dX8_comes_173 : decode cX8_comes 173 = .ok (.iconst 1, 1) := by decide +kernel
theorem dX8_comes_174 : decode cX8_comes 174 = .ok (.iadd, 1) := by decide +kernel
theorem dX8_comes_175 : decode cX8_comes 175 = .ok (.iastore, 1) := by decide +kernel
theorem dX8_comes_176 : decode cX8_comes 176 = .ok (.return_, 1) := by decide +kernel
theorem dX8_plays_0 : decode cX8_plays 0 = .ok (.aload_n 0, 1) := by decide +kernel
theorem dX8_plays_1 : decode cX8_plays 1 = .ok (.iload_n 1, 1) := by decide +kernel
theorem dX8_plays_2 : decode cX8_plays 2 = .ok (.iconst 0, 1) := by decide +kernel
theorem dX8_plays_3 : decode cX8_plays 3 = .ok (.invokevirtual 217, 3) := by decide +kernel
theorem dX8_plays_6 : decode cX8_plays 6 = .ok (.iconst 3, 1) := by decide +kernel
theorem dX8_plays_7 : decode cX8_plays 7 = .ok (.if_icmp .ge 11, 3) := by decide +kernel
theorem dX8_plays_10 : decode cX8_plays 10 = .ok (.aload_n 0, 1) := by decide +kernel
theorem dX8_plays_11 : decode cX8_plays 11 = .ok (.iload_n 1, 1) := by decide +kernel
theorem dX8_plays_12 : decode cX8_plays 12 = .ok (.invokevirtual 233, 3) := by decide +kernel
theorem dX8_plays_15 : decode cX8_plays 15 = .ok (.ifCond .ne 4, 3) := by decide +kernel
theorem dX8_plays_18 : decode cX8_plays 18 = .ok (.return_, 1) := by decide +kernel
theorem dX8_plays_19 : decode cX8_plays 19 = .ok (.aload_n 0, 1) := by decide +kernel
theorem dX8_plays_20 : decode cX8_plays 20 = .ok (.iload_n 1, 1) := by decide +kernel
theorem dX8_plays_21 : decode cX8_plays 21 = .ok (.iconst 0, 1) := by decide +kernel
theorem dX8_plays_22 : decode cX8_plays 22 = .ok (.invokevirtual 217, 3) := by decide +kernel
theorem dX8_plays_25 : decode cX8_plays 25 = .ok (.iconst 1, 1) := by decide +kernel
theorem dX8_plays_26 : decode cX8_plays 26 = .ok (.if_icmp .eq 33, 3) := by decide +kernel
theorem dX8_plays_29 : decode cX8_plays 29 = .ok (.aload_n 0, 1) := by decide +kernel
theorem dX8_plays_30 : decode cX8_plays 30 = .ok (.iload_n 1, 1) := by decide +kernel
theorem dX8_plays_31 : decode cX8_plays 31 = .ok (.iconst 1, 1) := by decide +kernel
theorem dX8_plays_32 : decode cX8_plays 32 = .ok (.invokevirtual 217, 3) := by decide +kernel
theorem dX8_plays_35 : decode cX8_plays 35 = .ok (.aload_n 0, 1) := by decide +kernel
theorem dX8_plays_36 : decode cX8_plays 36 = .ok (.getfield 7, 3) := by decide +kernel
theorem dX8_plays_39 : decode cX8_plays 39 = .ok (.iconst 1, 1) := by decide +kernel
theorem dX8_plays_40 : decode cX8_plays 40 = .ok (.iaload, 1) := by decide +kernel
theorem dX8_plays_41 : decode cX8_plays 41 = .ok (.if_icmp .ge 11, 3) := by decide +kernel
theorem dX8_plays_44 : decode cX8_plays 44 = .ok (.aload_n 0, 1) := by decide +kernel
theorem dX8_plays_45 : decode cX8_plays 45 = .ok (.iload_n 1, 1) := by decide +kernel
theorem dX8_plays_46 : decode cX8_plays 46 = .ok (.invokevirtual 236, 3) := by decide +kernel
theorem dX8_plays_49 : decode cX8_plays 49 = .ok (.ifCond .eq 10, 3) := by decide +kernel
theorem dX8_plays_52 : decode cX8_plays 52 = .ok (.aload_n 0, 1) := by decide +kernel
theorem dX8_plays_53 : decode cX8_plays 53 = .ok (.iload_n 1, 1) := by decide +kernel
theorem dX8_plays_54 : decode cX8_plays 54 = .ok (.iconst 0, 1) := by decide +kernel
theorem dX8_plays_55 : decode cX8_plays 55 = .ok (.iconst 1, 1) := by decide +kernel
theorem dX8_plays_56 : decode cX8_plays 56 = .ok (.invokevirtual 206, 3) := by decide +kernel
theorem dX8_plays_59 : decode cX8_plays 59 = .ok (.aload_n 0, 1) := by decide +kernel
theorem dX8_plays_60 : decode cX8_plays 60 = .ok (.iload_n 1, 1) := by decide +kernel
theorem dX8_plays_61 : decode cX8_plays 61 = .ok (.iconst 0, 1) := by decide +kernel
theorem dX8_plays_62 : decode cX8_plays 62 = .ok (.invokevirtual 217, 3) := by decide +kernel
theorem dX8_plays_65 : decode cX8_plays 65 = .ok (.iconst 1, 1) := by decide +kernel
theorem dX8_plays_66 : decode cX8_plays 66 = .ok (.if_icmp .ne 29, 3) := by decide +kernel
theorem dX8_plays_69 : decode cX8_plays 69 = .ok (.aload_n 0, 1) := by decide +kernel
theorem dX8_plays_70 : decode cX8_plays 70 = .ok (.iload_n 1, 1) := by decide +kernel
theorem dX8_plays_71 : decode cX8_plays 71 = .ok (.iconst 1, 1) := by decide +kernel
theorem dX8_plays_72 : decode cX8_plays 72 = .ok (.invokevirtual 217, 3) := by decide +kernel
theorem dX8_plays_75 : decode cX8_plays 75 = .ok (.ifCond .le 20, 3) := by decide +kernel
theorem dX8_plays_78 : decode cX8_plays 78 = .ok (.aload_n 0, 1) := by decide +kernel
theorem dX8_plays_79 : decode cX8_plays 79 = .ok (.iload_n 1, 1) := by decide +kernel
theorem dX8_plays_80 : decode cX8_plays 80 = .ok (.iconst 1, 1) := by decide +kernel
theorem dX8_plays_81 : decode cX8_plays 81 = .ok (.iconst (-1), 1) := by decide +kernel
theorem dX8_plays_82 : decode cX8_plays 82 = .ok (.invokevirtual 242, 3) := by decide +kernel
theorem dX8_plays_85 : decode cX8_plays 85 = .ok (.aload_n 0, 1) := by decide +kernel
theorem dX8_plays_86 : decode cX8_plays 86 = .ok (.iload_n 1, 1) := by decide +kernel
theorem dX8_plays_87 : decode cX8_plays 87 = .ok (.iconst 5, 1) := by decide +kernel
theorem dX8_plays_88 : decode cX8_plays 88 = .ok (.iconst 1, 1) := by decide +kernel
theorem dX8_plays_89 : decode cX8_plays 89 = .ok (.invokevirtual 242, 3) := by decide +kernel
theorem dX8_plays_92 : decode cX8_plays 92 = .ok (.goto 36, 3) := by decide +kernel
theorem dX8_plays_95 : decode cX8_plays 95 = .ok (.aload_n 0, 1) := by decide +kernel
theorem dX8_plays_96 : decode cX8_plays 96 = .ok (.iload_n 1, 1) := by decide +kernel
theorem dX8_plays_97 : decode cX8_plays 97 = .ok (.iconst 0, 1) := by decide +kernel
theorem dX8_plays_98 : decode cX8_plays 98 = .ok (.invokevirtual 217, 3) := by decide +kernel
theorem dX8_plays_101 : decode cX8_plays 101 = .ok (.iconst 1, 1) := by decide +kernel
theorem dX8_plays_102 : decode cX8_plays 102 = .ok (.if_icmp .ne 26, 3) := by decide +kernel
theorem dX8_plays_105 : decode cX8_plays 105 = .ok (.aload_n 0, 1) := by decide +kernel
theorem dX8_plays_106 : decode cX8_plays 106 = .ok (.iload_n 1, 1) := by decide +kernel
theorem dX8_plays_107 : decode cX8_plays 107 = .ok (.invokevirtual 236, 3) := by decide +kernel
theorem dX8_plays_110 : decode cX8_plays 110 = .ok (.ifCond .ne 18, 3) := by decide +kernel
theorem dX8_plays_113 : decode cX8_plays 113 = .ok (.aload_n 0, 1) := by decide +kernel
theorem dX8_plays_114 : decode cX8_plays 114 = .ok (.iload_n 1, 1) := by decide +kernel
theorem dX8_plays_115 : decode cX8_plays 115 = .ok (.iconst 0, 1) := by decide +kernel
theorem dX8_plays_116 : decode cX8_plays 116 = .ok (.iconst 2, 1) := by decide +kernel
theorem dX8_plays_117 : decode cX8_plays 117 = .ok (.invokevirtual 206, 3) := by decide +kernel
theorem dX8_plays_120 : decode cX8_plays 120 = .ok (.aload_n 0, 1) := by decide +kernel
theorem dX8_plays_121 : decode cX8_plays 121 = .ok (.iload_n 1, 1) := by decide +kernel
theorem dX8_plays_122 : decode cX8_plays 122 = .ok (.bipush 7, 2) := by decide +kernel
theorem dX8_plays_124 : decode cX8_plays 124 = .ok (.iconst 1, 1) := by decide +kernel
theorem dX8_plays_125 : decode cX8_plays 125 = .ok (.invokevirtual 242, 3) := by decide +kernel
theorem dX8_plays_128 : decode cX8_plays 128 = .ok (.aload_n 0, 1) := by decide +kernel
theorem dX8_plays_129 : decode cX8_plays 129 = .ok (.iload_n 1, 1) := by decide +kernel
theorem dX8_plays_130 : decode cX8_plays 130 = .ok (.iconst 0, 1) := by decide +kernel
theorem dX8_plays_131 : decode cX8_plays 131 = .ok (.invokevirtual 217, 3) := by decide +kernel
theorem dX8_plays_134 : decode cX8_plays 134 = .ok (.iconst 2, 1) := by decide +kernel
theorem dX8_plays_135 : decode cX8_plays 135 = .ok (.if_icmp .ne 22, 3) := by decide +kernel
theorem dX8_plays_138 : decode cX8_plays 138 = .ok (.aload_n 0, 1) := by decide +kernel
theorem dX8_plays_139 : decode cX8_plays 139 = .ok (.iload_n 1, 1) := by decide +kernel
theorem dX8_plays_140 : decode cX8_plays 140 = .ok (.bipush 6, 2) := by decide +kernel
theorem dX8_plays_142 : decode cX8_plays 142 = .ok (.iconst 1, 1) := by decide +kernel
theorem dX8_plays_143 : decode cX8_plays 143 = .ok (.invokevirtual 242, 3) := by decide +kernel
theorem dX8_plays_146 : decode cX8_plays 146 = .ok (.aload_n 0, 1) := by decide +kernel
theorem dX8_plays_147 : decode cX8_plays 147 = .ok (.getfield 17, 3) := by decide +kernel
theorem dX8_plays_150 : decode cX8_plays 150 = .ok (.bipush 11, 2) := by decide +kernel
theorem dX8_plays_152 : decode cX8_plays 152 = .ok (.dup2, 1) := by decide +kernel
theorem dX8_plays_153 : decode cX8_plays 153 = .ok (.iaload, 1) := by decide +kernel
theorem dX8_plays_154 : decode cX8_plays 154 = .ok (.iconst 1, 1) := by decide +kernel
theorem dX8_plays_155 : decode cX8_plays 155 = .ok (.iadd, 1) := by decide +kernel
theorem dX8_plays_156 : decode cX8_plays 156 = .ok (.iastore, 1) := by decide +kernel
theorem dX8_plays_157 : decode cX8_plays 157 = .ok (.aload_n 0, 1) := by decide +kernel
theorem dX8_plays_158 : decode cX8_plays 158 = .ok (.iload_n 1, 1) := by decide +kernel
theorem dX8_plays_159 : decode cX8_plays 159 = .ok (.invokevirtual 236, 3) := by decide +kernel
theorem dX8_plays_162 : decode cX8_plays 162 = .ok (.ifCond .eq 19, 3) := by decide +kernel
theorem dX8_plays_165 : decode cX8_plays 165 = .ok (.aload_n 0, 1) := by decide +kernel
theorem dX8_plays_166 : decode cX8_plays 166 = .ok (.iload_n 1, 1) := by decide +kernel
theorem dX8_plays_167 : decode cX8_plays 167 = .ok (.iconst 1, 1) := by decide +kernel
theorem dX8_plays_168 : decode cX8_plays 168 = .ok (.invokevirtual 217, 3) := by decide +kernel
theorem dX8_plays_171 : decode cX8_plays 171 = .ok (.ifCond .ne 10, 3) := by decide +kernel
theorem dX8_plays_174 : decode cX8_plays 174 = .ok (.aload_n 0, 1) := by decide +kernel
theorem dX8_plays_175 : decode cX8_plays 175 = .ok (.iload_n 1, 1) := by decide +kernel
theorem dX8_plays_176 : decode cX8_plays 176 = .ok (.iconst 0, 1) := by decide +kernel
theorem dX8_plays_177 : decode cX8_plays 177 = .ok (.iconst 3, 1) := by decide +kernel
theorem dX8_plays_178 : decode cX8_plays 178 = .ok (.invokevirtual 206, 3) := by decide +kernel
theorem dX8_plays_181 : decode cX8_plays 181 = .ok (.return_, 1) := by decide +kernel
theorem dX8_passes_0 : decode cX8_passes 0 = .ok (.iconst 0, 1) := by decide +kernel
theorem dX8_passes_1 : decode cX8_passes 1 = .ok (.istore_n 1, 1) := by decide +kernel
theorem dX8_passes_2 : decode cX8_passes 2 = .ok (.iload_n 1, 1) := by decide +kernel
theorem dX8_passes_3 : decode cX8_passes 3 = .ok (.aload_n 0, 1) := by decide +kernel
theorem dX8_passes_4 : decode cX8_passes 4 = .ok (.getfield 7, 3) := by decide +kernel
theorem dX8_passes_7 : decode cX8_passes 7 = .ok (.iconst 4, 1) := by decide +kernel
theorem dX8_passes_8 : decode cX8_passes 8 = .ok (.iaload, 1) := by decide +kernel
theorem dX8_passes_9 : decode cX8_passes 9 = .ok (.if_icmp .ge 14, 3) := by decide +kernel
theorem dX8_passes_12 : decode cX8_passes 12 = .ok (.aload_n 0, 1) := by decide +kernel
theorem dX8_passes_13 : decode cX8_passes 13 = .ok (.iload_n 1, 1) := by decide +kernel
theorem dX8_passes_14 : decode cX8_passes 14 = .ok (.invokevirtual 263, 3) := by decide +kernel
theorem dX8_passes_17 : decode cX8_passes 17 = .ok (.iinc 1 1, 3) := by decide +kernel
theorem dX8_passes_20 : decode cX8_passes 20 = .ok (.goto (-18), 3) := by decide +kernel
theorem dX8_passes_23 : decode cX8_passes 23 = .ok (.aload_n 0, 1) := by decide +kernel
theorem dX8_passes_24 : decode cX8_passes 24 = .ok (.invokevirtual 266, 3) := by decide +kernel
theorem dX8_passes_27 : decode cX8_passes 27 = .ok (.iconst 0, 1) := by decide +kernel
theorem dX8_passes_28 : decode cX8_passes 28 = .ok (.istore_n 1, 1) := by decide +kernel
theorem dX8_passes_29 : decode cX8_passes 29 = .ok (.iload_n 1, 1) := by decide +kernel
theorem dX8_passes_30 : decode cX8_passes 30 = .ok (.aload_n 0, 1) := by decide +kernel
theorem dX8_passes_31 : decode cX8_passes 31 = .ok (.getfield 7, 3) := by decide +kernel
theorem dX8_passes_34 : decode cX8_passes 34 = .ok (.iconst 4, 1) := by decide +kernel
theorem dX8_passes_35 : decode cX8_passes 35 = .ok (.iaload, 1) := by decide +kernel
theorem dX8_passes_36 : decode cX8_passes 36 = .ok (.if_icmp .ge 43, 3) := by decide +kernel
theorem dX8_passes_39 : decode cX8_passes 39 = .ok (.aload_n 0, 1) := by decide +kernel
theorem dX8_passes_40 : decode cX8_passes 40 = .ok (.iload_n 1, 1) := by decide +kernel
theorem dX8_passes_41 : decode cX8_passes 41 = .ok (.iconst 0, 1) := by decide +kernel
theorem dX8_passes_42 : decode cX8_passes 42 = .ok (.invokevirtual 217, 3) := by decide +kernel
theorem dX8_passes_45 : decode cX8_passes 45 = .ok (.iconst 4, 1) := by decide +kernel
theorem dX8_passes_46 : decode cX8_passes 46 = .ok (.if_icmp .eq 27, 3) := by decide +kernel
theorem dX8_passes_49 : decode cX8_passes 49 = .ok (.aload_n 0, 1) := by decide +kernel
theorem dX8_passes_50 : decode cX8_passes 50 = .ok (.iload_n 1, 1) := by decide +kernel
theorem dX8_passes_51 : decode cX8_passes 51 = .ok (.iconst 3, 1) := by decide +kernel
theorem dX8_passes_52 : decode cX8_passes 52 = .ok (.invokevirtual 217, 3) := by decide +kernel
theorem dX8_passes_55 : decode cX8_passes 55 = .ok (.iconst (-1), 1) := by decide +kernel
theorem dX8_passes_56 : decode cX8_passes 56 = .ok (.if_icmp .eq 17, 3) := by decide +kernel
theorem dX8_passes_59 : decode cX8_passes 59 = .ok (.aload_n 0, 1) := by decide +kernel
theorem dX8_passes_60 : decode cX8_passes 60 = .ok (.iload_n 1, 1) := by decide +kernel
theorem dX8_passes_61 : decode cX8_passes 61 = .ok (.iconst 4, 1) := by decide +kernel
theorem dX8_passes_62 : decode cX8_passes 62 = .ok (.invokevirtual 217, 3) := by decide +kernel
theorem dX8_passes_65 : decode cX8_passes 65 = .ok (.ifCond .ne 8, 3) := by decide +kernel
theorem dX8_passes_68 : decode cX8_passes 68 = .ok (.aload_n 0, 1) := by decide +kernel
theorem dX8_passes_69 : decode cX8_passes 69 = .ok (.iload_n 1, 1) := by decide +kernel
theorem dX8_passes_70 : decode cX8_passes 70 = .ok (.invokevirtual 269, 3) := by decide +kernel
theorem dX8_passes_73 : decode cX8_passes 73 = .ok (.iinc 1 1, 3) := by decide +kernel
theorem dX8_passes_76 : decode cX8_passes 76 = .ok (.goto (-47), 3) := by decide +kernel
theorem dX8_passes_79 : decode cX8_passes 79 = .ok (.iconst 0, 1) := by decide +kernel
theorem dX8_passes_80 : decode cX8_passes 80 = .ok (.istore_n 1, 1) := by decide +kernel
theorem dX8_passes_81 : decode cX8_passes 81 = .ok (.iload_n 1, 1) := by decide +kernel
theorem dX8_passes_82 : decode cX8_passes 82 = .ok (.aload_n 0, 1) := by decide +kernel
theorem dX8_passes_83 : decode cX8_passes 83 = .ok (.getfield 7, 3) := by decide +kernel
theorem dX8_passes_86 : decode cX8_passes 86 = .ok (.iconst 4, 1) := by decide +kernel
theorem dX8_passes_87 : decode cX8_passes 87 = .ok (.iaload, 1) := by decide +kernel
theorem dX8_passes_88 : decode cX8_passes 88 = .ok (.if_icmp .ge 14, 3) := by decide +kernel
theorem dX8_passes_91 : decode cX8_passes 91 = .ok (.aload_n 0, 1) := by decide +kernel
theorem dX8_passes_92 : decode cX8_passes 92 = .ok (.iload_n 1, 1) := by decide +kernel
theorem dX8_passes_93 : decode cX8_passes 93 = .ok (.invokevirtual 272, 3) := by decide +kernel
theorem dX8_passes_96 : decode cX8_passes 96 = .ok (.iinc 1 1, 3) := by decide +kernel
theorem dX8_passes_99 : decode cX8_passes 99 = .ok (.goto (-18), 3) := by decide +kernel
theorem dX8_passes_102 : decode cX8_passes 102 = .ok (.aload_n 0, 1) := by decide +kernel
theorem dX8_passes_103 : decode cX8_passes 103 = .ok (.getfield 17, 3) := by decide +kernel
theorem dX8_passes_106 : decode cX8_passes 106 = .ok (.iconst 0, 1) := by decide +kernel
theorem dX8_passes_107 : decode cX8_passes 107 = .ok (.dup2, 1) := by decide +kernel
theorem dX8_passes_108 : decode cX8_passes 108 = .ok (.iaload, 1) := by decide +kernel
theorem dX8_passes_109 : decode cX8_passes 109 = .ok (.iconst 1, 1) := by decide +kernel
theorem dX8_passes_110 : decode cX8_passes 110 = .ok (.iadd, 1) := by decide +kernel
theorem dX8_passes_111 : decode cX8_passes 111 = .ok (.iastore, 1) := by decide +kernel
theorem dX8_passes_112 : decode cX8_passes 112 = .ok (.return_, 1) := by decide +kernel
theorem dX8_isOver_0 : decode cX8_isOver 0 = .ok (.iconst 1, 1) := by decide +kernel
theorem dX8_isOver_1 : decode cX8_isOver 1 = .ok (.istore_n 1, 1) := by decide +kernel
theorem dX8_isOver_2 : decode cX8_isOver 2 = .ok (.iconst 0, 1) := by decide +kernel
theorem dX8_isOver_3 : decode cX8_isOver 3 = .ok (.istore_n 2, 1) := by decide +kernel
theorem dX8_isOver_4 : decode cX8_isOver 4 = .ok (.iload_n 2, 1) := by decide +kernel
theorem dX8_isOver_5 : decode cX8_isOver 5 = .ok (.aload_n 0, 1) := by decide +kernel
theorem dX8_isOver_6 : decode cX8_isOver 6 = .ok (.getfield 7, 3) := by decide +kernel
theorem dX8_isOver_9 : decode cX8_isOver 9 = .ok (.iconst 4, 1) := by decide +kernel
theorem dX8_isOver_10 : decode cX8_isOver 10 = .ok (.iaload, 1) := by decide +kernel
theorem dX8_isOver_11 : decode cX8_isOver 11 = .ok (.if_icmp .ge 29, 3) := by decide +kernel
theorem dX8_isOver_14 : decode cX8_isOver 14 = .ok (.iload_n 1, 1) := by decide +kernel
theorem dX8_isOver_15 : decode cX8_isOver 15 = .ok (.ifCond .eq 17, 3) := by decide +kernel
theorem dX8_isOver_18 : decode cX8_isOver 18 = .ok (.aload_n 0, 1) := by decide +kernel
theorem dX8_isOver_19 : decode cX8_isOver 19 = .ok (.iload_n 2, 1) := by decide +kernel
theorem dX8_isOver_20 : decode cX8_isOver 20 = .ok (.iconst 0, 1) := by decide +kernel
theorem dX8_isOver_21 : decode cX8_isOver 21 = .ok (.invokevirtual 217, 3) := by decide +kernel
theorem dX8_isOver_24 : decode cX8_isOver 24 = .ok (.iconst 3, 1) := by decide +kernel
theorem dX8_isOver_25 : decode cX8_isOver 25 = .ok (.if_icmp .lt 7, 3) := by decide +kernel
theorem dX8_isOver_28 : decode cX8_isOver 28 = .ok (.iconst 1, 1) := by decide +kernel
theorem dX8_isOver_29 : decode cX8_isOver 29 = .ok (.goto 4, 3) := by decide +kernel
theorem dX8_isOver_32 : decode cX8_isOver 32 = .ok (.iconst 0, 1) := by decide +kernel
theorem dX8_isOver_33 : decode cX8_isOver 33 = .ok (.istore_n 1, 1) := by decide +kernel
theorem dX8_isOver_34 : decode cX8_isOver 34 = .ok (.iinc 2 1, 3) := by decide +kernel
theorem dX8_isOver_37 : decode cX8_isOver 37 = .ok (.goto (-33), 3) := by decide +kernel
theorem dX8_isOver_40 : decode cX8_isOver 40 = .ok (.iload_n 1, 1) := by decide +kernel
theorem dX8_isOver_41 : decode cX8_isOver 41 = .ok (.ireturn, 1) := by decide +kernel
theorem dX8_foresees_0 : decode cX8_foresees 0 = .ok (.aload_n 0, 1) := by decide +kernel
theorem dX8_foresees_1 : decode cX8_foresees 1 = .ok (.getfield 17, 3) := by decide +kernel
theorem dX8_foresees_4 : decode cX8_foresees 4 = .ok (.iconst 0, 1) := by decide +kernel
theorem dX8_foresees_5 : decode cX8_foresees 5 = .ok (.aload_n 0, 1) := by decide +kernel
theorem dX8_foresees_6 : decode cX8_foresees 6 = .ok (.getfield 52, 3) := by decide +kernel
theorem dX8_foresees_9 : decode cX8_foresees 9 = .ok (.iconst 0, 1) := by decide +kernel
theorem dX8_foresees_10 : decode cX8_foresees 10 = .ok (.invokestatic 275, 3) := by decide +kernel
theorem dX8_foresees_13 : decode cX8_foresees 13 = .ok (.aload_n 0, 1) := by decide +kernel
theorem dX8_foresees_14 : decode cX8_foresees 14 = .ok (.getfield 17, 3) := by decide +kernel
theorem dX8_foresees_17 : decode cX8_foresees 17 = .ok (.iconst 0, 1) := by decide +kernel
theorem dX8_foresees_18 : decode cX8_foresees 18 = .ok (.iaload, 1) := by decide +kernel
theorem dX8_foresees_19 : decode cX8_foresees 19 = .ok (.sipush 2000, 3) := by decide +kernel
theorem dX8_foresees_22 : decode cX8_foresees 22 = .ok (.if_icmp .ge 17, 3) := by decide +kernel
theorem dX8_foresees_25 : decode cX8_foresees 25 = .ok (.aload_n 0, 1) := by decide +kernel
theorem dX8_foresees_26 : decode cX8_foresees 26 = .ok (.invokevirtual 279, 3) := by decide +kernel
theorem dX8_foresees_29 : decode cX8_foresees 29 = .ok (.ifCond .ne 10, 3) := by decide +kernel
theorem dX8_foresees_32 : decode cX8_foresees 32 = .ok (.aload_n 0, 1) := by decide +kernel
theorem dX8_foresees_33 : decode cX8_foresees 33 = .ok (.invokevirtual 282, 3) := by decide +kernel
theorem dX8_foresees_36 : decode cX8_foresees 36 = .ok (.goto (-23), 3) := by decide +kernel
theorem dX8_foresees_39 : decode cX8_foresees 39 = .ok (.return_, 1) := by decide +kernel
theorem dX8_comesBack_0 : decode cX8_comesBack 0 = .ok (.aload_n 0, 1) := by decide +kernel
theorem dX8_comesBack_1 : decode cX8_comesBack 1 = .ok (.getfield 52, 3) := by decide +kernel
theorem dX8_comesBack_4 : decode cX8_comesBack 4 = .ok (.iconst 0, 1) := by decide +kernel
theorem dX8_comesBack_5 : decode cX8_comesBack 5 = .ok (.aload_n 0, 1) := by decide +kernel
theorem dX8_comesBack_6 : decode cX8_comesBack 6 = .ok (.getfield 17, 3) := by decide +kernel
theorem dX8_comesBack_9 : decode cX8_comesBack 9 = .ok (.iconst 0, 1) := by decide +kernel
theorem dX8_comesBack_10 : decode cX8_comesBack 10 = .ok (.invokestatic 275, 3) := by decide +kernel
theorem dX8_comesBack_13 : decode cX8_comesBack 13 = .ok (.return_, 1) := by decide +kernel
theorem dX8_isSteady_0 : decode cX8_isSteady 0 = .ok (.aload_n 0, 1) := by decide +kernel
theorem dX8_isSteady_1 : decode cX8_isSteady 1 = .ok (.iload_n 1, 1) := by decide +kernel
theorem dX8_isSteady_2 : decode cX8_isSteady 2 = .ok (.bipush 6, 2) := by decide +kernel
theorem dX8_isSteady_4 : decode cX8_isSteady 4 = .ok (.invokevirtual 217, 3) := by decide +kernel
theorem dX8_isSteady_7 : decode cX8_isSteady 7 = .ok (.istore_n 2, 1) := by decide +kernel
theorem dX8_isSteady_8 : decode cX8_isSteady 8 = .ok (.aload_n 0, 1) := by decide +kernel
theorem dX8_isSteady_9 : decode cX8_isSteady 9 = .ok (.iload_n 1, 1) := by decide +kernel
theorem dX8_isSteady_10 : decode cX8_isSteady 10 = .ok (.putfield 46, 3) := by decide +kernel
theorem dX8_isSteady_13 : decode cX8_isSteady 13 = .ok (.aload_n 0, 1) := by decide +kernel
theorem dX8_isSteady_14 : decode cX8_isSteady 14 = .ok (.invokevirtual 285, 3) := by decide +kernel
theorem dX8_isSteady_17 : decode cX8_isSteady 17 = .ok (.aload_n 0, 1) := by decide +kernel
theorem dX8_isSteady_18 : decode cX8_isSteady 18 = .ok (.iload_n 1, 1) := by decide +kernel
theorem dX8_isSteady_19 : decode cX8_isSteady 19 = .ok (.iconst 0, 1) := by decide +kernel
theorem dX8_isSteady_20 : decode cX8_isSteady 20 = .ok (.invokevirtual 217, 3) := by decide +kernel
theorem dX8_isSteady_23 : decode cX8_isSteady 23 = .ok (.iconst 3, 1) := by decide +kernel
theorem dX8_isSteady_24 : decode cX8_isSteady 24 = .ok (.if_icmp .ne 18, 3) := by decide +kernel
theorem dX8_isSteady_27 : decode cX8_isSteady 27 = .ok (.aload_n 0, 1) := by decide +kernel
theorem dX8_isSteady_28 : decode cX8_isSteady 28 = .ok (.iload_n 1, 1) := by decide +kernel
theorem dX8_isSteady_29 : decode cX8_isSteady 29 = .ok (.bipush 6, 2) := by decide +kernel
theorem dX8_isSteady_31 : decode cX8_isSteady 31 = .ok (.invokevirtual 217, 3) := by decide +kernel
theorem dX8_isSteady_34 : decode cX8_isSteady 34 = .ok (.iload_n 2, 1) := by decide +kernel
theorem dX8_isSteady_35 : decode cX8_isSteady 35 = .ok (.if_icmp .ne 7, 3) := by decide +kernel
theorem dX8_isSteady_38 : decode cX8_isSteady 38 = .ok (.iconst 1, 1) := by decide +kernel
theorem dX8_isSteady_39 : decode cX8_isSteady 39 = .ok (.goto 4, 3) := by decide +kernel
theorem dX8_isSteady_42 : decode cX8_isSteady 42 = .ok (.iconst 0, 1) := by decide +kernel
theorem dX8_isSteady_43 : decode cX8_isSteady 43 = .ok (.istore_n 3, 1) := by decide +kernel
theorem dX8_isSteady_44 : decode cX8_isSteady 44 = .ok (.aload_n 0, 1) := by decide +kernel
theorem dX8_isSteady_45 : decode cX8_isSteady 45 = .ok (.invokevirtual 288, 3) := by decide +kernel
theorem dX8_isSteady_48 : decode cX8_isSteady 48 = .ok (.aload_n 0, 1) := by decide +kernel
theorem dX8_isSteady_49 : decode cX8_isSteady 49 = .ok (.iconst (-1), 1) := by decide +kernel
theorem dX8_isSteady_50 : decode cX8_isSteady 50 = .ok (.putfield 46, 3) := by decide +kernel
theorem dX8_isSteady_53 : decode cX8_isSteady 53 = .ok (.iload_n 3, 1) := by decide +kernel
theorem dX8_isSteady_54 : decode cX8_isSteady 54 = .ok (.ireturn, 1) := by decide +kernel
theorem dX8_hasNone_0 : decode cX8_hasNone 0 = .ok (.aload_n 0, 1) := by decide +kernel
theorem dX8_hasNone_1 : decode cX8_hasNone 1 = .ok (.iload_n 1, 1) := by decide +kernel
theorem dX8_hasNone_2 : decode cX8_hasNone 2 = .ok (.iconst 0, 1) := by decide +kernel
theorem dX8_hasNone_3 : decode cX8_hasNone 3 = .ok (.invokevirtual 217, 3) := by decide +kernel
theorem dX8_hasNone_6 : decode cX8_hasNone 6 = .ok (.iconst 4, 1) := by decide +kernel
theorem dX8_hasNone_7 : decode cX8_hasNone 7 = .ok (.if_icmp .eq 17, 3) := by decide +kernel
theorem dX8_hasNone_10 : decode cX8_hasNone 10 = .ok (.aload_n 0, 1) := by decide +kernel
theorem dX8_hasNone_11 : decode cX8_hasNone 11 = .ok (.iload_n 1, 1) := by decide +kernel
theorem dX8_hasNone_12 : decode cX8_hasNone 12 = .ok (.invokevirtual 220, 3) := by decide +kernel
theorem dX8_hasNone_15 : decode cX8_hasNone 15 = .ok (.aload_n 0, 1) := by decide +kernel
theorem dX8_hasNone_16 : decode cX8_hasNone 16 = .ok (.iload_n 1, 1) := by decide +kernel
theorem dX8_hasNone_17 : decode cX8_hasNone 17 = .ok (.iconst 0, 1) := by decide +kernel
theorem dX8_hasNone_18 : decode cX8_hasNone 18 = .ok (.invokevirtual 213, 3) := by decide +kernel
theorem dX8_hasNone_21 : decode cX8_hasNone 21 = .ok (.if_icmp .ne 7, 3) := by decide +kernel
theorem dX8_hasNone_24 : decode cX8_hasNone 24 = .ok (.iconst 1, 1) := by decide +kernel
theorem dX8_hasNone_25 : decode cX8_hasNone 25 = .ok (.goto 4, 3) := by decide +kernel
theorem dX8_hasNone_28 : decode cX8_hasNone 28 = .ok (.iconst 0, 1) := by decide +kernel
theorem dX8_hasNone_29 : decode cX8_hasNone 29 = .ok (.ireturn, 1) := by decide +kernel
theorem dX8_steadyOf_0 : decode cX8_steadyOf 0 = .ok (.aload_n 0, 1) := by decide +kernel
theorem dX8_steadyOf_1 : decode cX8_steadyOf 1 = .ok (.iload_n 1, 1) := by decide +kernel
theorem dX8_steadyOf_2 : decode cX8_steadyOf 2 = .ok (.invokevirtual 291, 3) := by decide +kernel
theorem dX8_steadyOf_5 : decode cX8_steadyOf 5 = .ok (.ifCond .eq 5, 3) := by decide +kernel
theorem dX8_steadyOf_8 : decode cX8_steadyOf 8 = .ok (.iconst (-1), 1) := by decide +kernel
theorem dX8_steadyOf_9 : decode cX8_steadyOf 9 = .ok (.ireturn, 1) := by decide +kernel
theorem dX8_steadyOf_10 : decode cX8_steadyOf 10 = .ok (.aload_n 0, 1) := by decide +kernel
theorem dX8_steadyOf_11 : decode cX8_steadyOf 11 = .ok (.iload_n 1, 1) := by decide +kernel
theorem dX8_steadyOf_12 : decode cX8_steadyOf 12 = .ok (.iconst 1, 1) := by decide +kernel
theorem dX8_steadyOf_13 : decode cX8_steadyOf 13 = .ok (.invokevirtual 213, 3) := by decide +kernel
theorem dX8_steadyOf_16 : decode cX8_steadyOf 16 = .ok (.iconst 1, 1) := by decide +kernel
theorem dX8_steadyOf_17 : decode cX8_steadyOf 17 = .ok (.isub, 1) := by decide +kernel
theorem dX8_steadyOf_18 : decode cX8_steadyOf 18 = .ok (.istore_n 2, 1) := by decide +kernel
theorem dX8_steadyOf_19 : decode cX8_steadyOf 19 = .ok (.iload_n 2, 1) := by decide +kernel
theorem dX8_steadyOf_20 : decode cX8_steadyOf 20 = .ok (.ifCond .lt 40, 3) := by decide +kernel
theorem dX8_steadyOf_23 : decode cX8_steadyOf 23 = .ok (.iconst 0, 1) := by decide +kernel
theorem dX8_steadyOf_24 : decode cX8_steadyOf 24 = .ok (.istore_n 3, 1) := by decide +kernel
theorem dX8_steadyOf_25 : decode cX8_steadyOf 25 = .ok (.iload_n 3, 1) := by decide +kernel
theorem dX8_steadyOf_26 : decode cX8_steadyOf 26 = .ok (.bipush 30, 2) := by decide +kernel
theorem dX8_steadyOf_28 : decode cX8_steadyOf 28 = .ok (.if_icmp .ge 16, 3) := by decide +kernel
theorem dX8_steadyOf_31 : decode cX8_steadyOf 31 = .ok (.aload_n 0, 1) := by decide +kernel
theorem dX8_steadyOf_32 : decode cX8_steadyOf 32 = .ok (.getfield 49, 3) := by decide +kernel
theorem dX8_steadyOf_35 : decode cX8_steadyOf 35 = .ok (.iload_n 3, 1) := by decide +kernel
theorem dX8_steadyOf_36 : decode cX8_steadyOf 36 = .ok (.iload_n 2, 1) := by decide +kernel
theorem dX8_steadyOf_37 : decode cX8_steadyOf 37 = .ok (.iastore, 1) := by decide +kernel
theorem dX8_steadyOf_38 : decode cX8_steadyOf 38 = .ok (.iinc 3 1, 3) := by decide +kernel
theorem dX8_steadyOf_41 : decode cX8_steadyOf 41 = .ok (.goto (-16), 3) := by decide +kernel
theorem dX8_steadyOf_44 : decode cX8_steadyOf 44 = .ok (.aload_n 0, 1) := by decide +kernel
theorem dX8_steadyOf_45 : decode cX8_steadyOf 45 = .ok (.iload_n 1, 1) := by decide +kernel
theorem dX8_steadyOf_46 : decode cX8_steadyOf 46 = .ok (.invokevirtual 294, 3) := by decide +kernel
theorem dX8_steadyOf_49 : decode cX8_steadyOf 49 = .ok (.ifCond .eq 5, 3) := by decide +kernel
theorem dX8_steadyOf_52 : decode cX8_steadyOf 52 = .ok (.iload_n 2, 1) := by decide +kernel
theorem dX8_steadyOf_53 : decode cX8_steadyOf 53 = .ok (.ireturn, 1) := by decide +kernel
theorem dX8_steadyOf_54 : decode cX8_steadyOf 54 = .ok (.iinc 2 (-1), 3) := by decide +kernel
theorem dX8_steadyOf_57 : decode cX8_steadyOf 57 = .ok (.goto (-38), 3) := by decide +kernel
theorem dX8_steadyOf_60 : decode cX8_steadyOf 60 = .ok (.iconst (-1), 1) := by decide +kernel
theorem dX8_steadyOf_61 : decode cX8_steadyOf 61 = .ok (.ireturn, 1) := by decide +kernel
theorem dX8_laysOracle_0 : decode cX8_laysOracle 0 = .ok (.iconst 0, 1) := by decide +kernel
theorem dX8_laysOracle_1 : decode cX8_laysOracle 1 = .ok (.istore_n 3, 1) := by decide +kernel
theorem dX8_laysOracle_2 : decode cX8_laysOracle 2 = .ok (.iload_n 3, 1) := by decide +kernel
theorem dX8_laysOracle_3 : decode cX8_laysOracle 3 = .ok (.bipush 30, 2) := by decide +kernel
theorem dX8_laysOracle_5 : decode cX8_laysOracle 5 = .ok (.if_icmp .ge 16, 3) := by decide +kernel
theorem dX8_laysOracle_8 : decode cX8_laysOracle 8 = .ok (.aload_n 0, 1) := by decide +kernel
theorem dX8_laysOracle_9 : decode cX8_laysOracle 9 = .ok (.getfield 49, 3) := by decide +kernel
theorem dX8_laysOracle_12 : decode cX8_laysOracle 12 = .ok (.iload_n 3, 1) := by decide +kernel
theorem dX8_laysOracle_13 : decode cX8_laysOracle 13 = .ok (.iconst 0, 1) := by decide +kernel
theorem dX8_laysOracle_14 : decode cX8_laysOracle 14 = .ok (.iastore, 1) := by decide +kernel
theorem dX8_laysOracle_15 : decode cX8_laysOracle 15 = .ok (.iinc 3 1, 3) := by decide +kernel
theorem dX8_laysOracle_18 : decode cX8_laysOracle 18 = .ok (.goto (-16), 3) := by decide +kernel
theorem dX8_laysOracle_21 : decode cX8_laysOracle 21 = .ok (.aload_n 0, 1) := by decide +kernel
theorem dX8_laysOracle_22 : decode cX8_laysOracle 22 = .ok (.iload_n 1, 1) := by decide +kernel
theorem dX8_laysOracle_23 : decode cX8_laysOracle 23 = .ok (.invokevirtual 220, 3) := by decide +kernel
theorem dX8_laysOracle_26 : decode cX8_laysOracle 26 = .ok (.istore_n 3, 1) := by decide +kernel
theorem dX8_laysOracle_27 : decode cX8_laysOracle 27 = .ok (.iload_n 3, 1) := by decide +kernel
theorem dX8_laysOracle_28 : decode cX8_laysOracle 28 = .ok (.iload_n 2, 1) := by decide +kernel
theorem dX8_laysOracle_29 : decode cX8_laysOracle 29 = .ok (.if_icmp .gt 54, 3) := by decide +kernel
theorem dX8_laysOracle_32 : decode cX8_laysOracle 32 = .ok (.aload_n 0, 1) := by decide +kernel
theorem dX8_laysOracle_33 : decode cX8_laysOracle 33 = .ok (.iload_n 1, 1) := by decide +kernel
theorem dX8_laysOracle_34 : decode cX8_laysOracle 34 = .ok (.iconst 1, 1) := by decide +kernel
theorem dX8_laysOracle_35 : decode cX8_laysOracle 35 = .ok (.invokevirtual 213, 3) := by decide +kernel
theorem dX8_laysOracle_38 : decode cX8_laysOracle 38 = .ok (.iconst 1, 1) := by decide +kernel
theorem dX8_laysOracle_39 : decode cX8_laysOracle 39 = .ok (.isub, 1) := by decide +kernel
theorem dX8_laysOracle_40 : decode cX8_laysOracle 40 = .ok (.istore 4, 2) := by decide +kernel
theorem dX8_laysOracle_42 : decode cX8_laysOracle 42 = .ok (.aload_n 0, 1) := by decide +kernel
theorem dX8_laysOracle_43 : decode cX8_laysOracle 43 = .ok (.getfield 49, 3) := by decide +kernel
theorem dX8_laysOracle_46 : decode cX8_laysOracle 46 = .ok (.iload_n 3, 1) := by decide +kernel
theorem dX8_laysOracle_47 : decode cX8_laysOracle 47 = .ok (.iload 4, 2) := by decide +kernel
theorem dX8_laysOracle_49 : decode cX8_laysOracle 49 = .ok (.iastore, 1) := by decide +kernel
theorem dX8_laysOracle_50 : decode cX8_laysOracle 50 = .ok (.iload 4, 2) := by decide +kernel
theorem dX8_laysOracle_52 : decode cX8_laysOracle 52 = .ok (.ifCond .le 25, 3) := by decide +kernel
theorem dX8_laysOracle_55 : decode cX8_laysOracle 55 = .ok (.aload_n 0, 1) := by decide +kernel
theorem dX8_laysOracle_56 : decode cX8_laysOracle 56 = .ok (.iload_n 1, 1) := by decide +kernel
theorem dX8_laysOracle_57 : decode cX8_laysOracle 57 = .ok (.invokevirtual 294, 3) := by decide +kernel
theorem dX8_laysOracle_60 : decode cX8_laysOracle 60 = .ok (.ifCond .ne 17, 3) := by decide +kernel
theorem dX8_laysOracle_63 : decode cX8_laysOracle 63 = .ok (.iinc 4 (-1), 3) := by decide +kernel
theorem dX8_laysOracle_66 : decode cX8_laysOracle 66 = .ok (.aload_n 0, 1) := by decide +kernel
theorem dX8_laysOracle_67 : decode cX8_laysOracle 67 = .ok (.getfield 49, 3) := by decide +kernel
theorem dX8_laysOracle_70 : decode cX8_laysOracle 70 = .ok (.iload_n 3, 1) := by decide +kernel
theorem dX8_laysOracle_71 : decode cX8_laysOracle 71 = .ok (.iload 4, 2) := by decide +kernel
theorem dX8_laysOracle_73 : decode cX8_laysOracle 73 = .ok (.iastore, 1) := by decide +kernel
theorem dX8_laysOracle_74 : decode cX8_laysOracle 74 = .ok (.goto (-24), 3) := by decide +kernel
theorem dX8_laysOracle_77 : decode cX8_laysOracle 77 = .ok (.iinc 3 1, 3) := by decide +kernel
theorem dX8_laysOracle_80 : decode cX8_laysOracle 80 = .ok (.goto (-53), 3) := by decide +kernel
theorem dX8_laysOracle_83 : decode cX8_laysOracle 83 = .ok (.return_, 1) := by decide +kernel
theorem dX8_qualitiesAhead_0 : decode cX8_qualitiesAhead 0 = .ok (.aload_n 0, 1) := by decide +kernel
theorem dX8_qualitiesAhead_1 : decode cX8_qualitiesAhead 1 = .ok (.iload_n 2, 1) := by decide +kernel
theorem dX8_qualitiesAhead_2 : decode cX8_qualitiesAhead 2 = .ok (.ifCond .eq 7, 3) := by decide +kernel
theorem dX8_qualitiesAhead_5 : decode cX8_qualitiesAhead 5 = .ok (.iload_n 1, 1) := by decide +kernel
theorem dX8_qualitiesAhead_6 : decode cX8_qualitiesAhead 6 = .ok (.goto 4, 3) := by decide +kernel
theorem dX8_qualitiesAhead_9 : decode cX8_qualitiesAhead 9 = .ok (.iconst (-1), 1) := by decide +kernel
theorem dX8_qualitiesAhead_10 : decode cX8_qualitiesAhead 10 = .ok (.putfield 46, 3) := by decide +kernel
theorem dX8_qualitiesAhead_13 : decode cX8_qualitiesAhead 13 = .ok (.aload_n 0, 1) := by decide +kernel
theorem dX8_qualitiesAhead_14 : decode cX8_qualitiesAhead 14 = .ok (.invokevirtual 285, 3) := by decide +kernel
theorem dX8_qualitiesAhead_17 : decode cX8_qualitiesAhead 17 = .ok (.aload_n 0, 1) := by decide +kernel
theorem dX8_qualitiesAhead_18 : decode cX8_qualitiesAhead 18 = .ok (.iload_n 1, 1) := by decide +kernel
theorem dX8_qualitiesAhead_19 : decode cX8_qualitiesAhead 19 = .ok (.bipush 9, 2) := by decide +kernel
theorem dX8_qualitiesAhead_21 : decode cX8_qualitiesAhead 21 = .ok (.invokevirtual 217, 3) := by decide +kernel
theorem dX8_qualitiesAhead_24 : decode cX8_qualitiesAhead 24 = .ok (.istore_n 3, 1) := by decide +kernel
theorem dX8_qualitiesAhead_25 : decode cX8_qualitiesAhead 25 = .ok (.aload_n 0, 1) := by decide +kernel
theorem dX8_qualitiesAhead_26 : decode cX8_qualitiesAhead 26 = .ok (.invokevirtual 288, 3) := by decide +kernel
theorem dX8_qualitiesAhead_29 : decode cX8_qualitiesAhead 29 = .ok (.aload_n 0, 1) := by decide +kernel
theorem dX8_qualitiesAhead_30 : decode cX8_qualitiesAhead 30 = .ok (.iconst (-1), 1) := by decide +kernel
theorem dX8_qualitiesAhead_31 : decode cX8_qualitiesAhead 31 = .ok (.putfield 46, 3) := by decide +kernel
theorem dX8_qualitiesAhead_34 : decode cX8_qualitiesAhead 34 = .ok (.iload_n 3, 1) := by decide +kernel
theorem dX8_qualitiesAhead_35 : decode cX8_qualitiesAhead 35 = .ok (.ireturn, 1) := by decide +kernel
theorem dX8_loading_0 : decode cX8_loading 0 = .ok (.iconst 0, 1) := by decide +kernel
theorem dX8_loading_1 : decode cX8_loading 1 = .ok (.istore_n 1, 1) := by decide +kernel
theorem dX8_loading_2 : decode cX8_loading 2 = .ok (.iconst 0, 1) := by decide +kernel
theorem dX8_loading_3 : decode cX8_loading 3 = .ok (.istore_n 2, 1) := by decide +kernel
theorem dX8_loading_4 : decode cX8_loading 4 = .ok (.iload_n 2, 1) := by decide +kernel
theorem dX8_loading_5 : decode cX8_loading 5 = .ok (.aload_n 0, 1) := by decide +kernel
theorem dX8_loading_6 : decode cX8_loading 6 = .ok (.getfield 7, 3) := by decide +kernel
theorem dX8_loading_9 : decode cX8_loading 9 = .ok (.iconst 4, 1) := by decide +kernel
theorem dX8_loading_10 : decode cX8_loading 10 = .ok (.iaload, 1) := by decide +kernel
theorem dX8_loading_11 : decode cX8_loading 11 = .ok (.if_icmp .ge 37, 3) := by decide +kernel
theorem dX8_loading_14 : decode cX8_loading 14 = .ok (.iload_n 1, 1) := by decide +kernel
theorem dX8_loading_15 : decode cX8_loading 15 = .ok (.aload_n 0, 1) := by decide +kernel
theorem dX8_loading_16 : decode cX8_loading 16 = .ok (.iload_n 2, 1) := by decide +kernel
theorem dX8_loading_17 : decode cX8_loading 17 = .ok (.iconst 0, 1) := by decide +kernel
theorem dX8_loading_18 : decode cX8_loading 18 = .ok (.invokevirtual 217, 3) := by decide +kernel
theorem dX8_loading_21 : decode cX8_loading 21 = .ok (.iconst 4, 1) := by decide +kernel
theorem dX8_loading_22 : decode cX8_loading 22 = .ok (.if_icmp .eq 17, 3) := by decide +kernel
theorem dX8_loading_25 : decode cX8_loading 25 = .ok (.aload_n 0, 1) := by decide +kernel
theorem dX8_loading_26 : decode cX8_loading 26 = .ok (.iload_n 2, 1) := by decide +kernel
theorem dX8_loading_27 : decode cX8_loading 27 = .ok (.iconst 3, 1) := by decide +kernel
theorem dX8_loading_28 : decode cX8_loading 28 = .ok (.invokevirtual 217, 3) := by decide +kernel
theorem dX8_loading_31 : decode cX8_loading 31 = .ok (.iconst (-1), 1) := by decide +kernel
theorem dX8_loading_32 : decode cX8_loading 32 = .ok (.if_icmp .eq 7, 3) := by decide +kernel
theorem dX8_loading_35 : decode cX8_loading 35 = .ok (.iconst 1, 1) := by decide +kernel
theorem dX8_loading_36 : decode cX8_loading 36 = .ok (.goto 4, 3) := by decide +kernel
theorem dX8_loading_39 : decode cX8_loading 39 = .ok (.iconst 0, 1) := by decide +kernel
theorem dX8_loading_40 : decode cX8_loading 40 = .ok (.iadd, 1) := by decide +kernel
theorem dX8_loading_41 : decode cX8_loading 41 = .ok (.istore_n 1, 1) := by decide +kernel
theorem dX8_loading_42 : decode cX8_loading 42 = .ok (.iinc 2 1, 3) := by decide +kernel
theorem dX8_loading_45 : decode cX8_loading 45 = .ok (.goto (-41), 3) := by decide +kernel
theorem dX8_loading_48 : decode cX8_loading 48 = .ok (.iload_n 1, 1) := by decide +kernel
theorem dX8_loading_49 : decode cX8_loading 49 = .ok (.ireturn, 1) := by decide +kernel
theorem dX8_doneMany_0 : decode cX8_doneMany 0 = .ok (.iconst 0, 1) := by decide +kernel
theorem dX8_doneMany_1 : decode cX8_doneMany 1 = .ok (.istore_n 1, 1) := by decide +kernel
theorem dX8_doneMany_2 : decode cX8_doneMany 2 = .ok (.iconst 0, 1) := by decide +kernel
theorem dX8_doneMany_3 : decode cX8_doneMany 3 = .ok (.istore_n 2, 1) := by decide +kernel
theorem dX8_doneMany_4 : decode cX8_doneMany 4 = .ok (.iload_n 2, 1) := by decide +kernel
theorem dX8_doneMany_5 : decode cX8_doneMany 5 = .ok (.aload_n 0, 1) := by decide +kernel
theorem dX8_doneMany_6 : decode cX8_doneMany 6 = .ok (.getfield 7, 3) := by decide +kernel
theorem dX8_doneMany_9 : decode cX8_doneMany 9 = .ok (.iconst 4, 1) := by decide +kernel
theorem dX8_doneMany_10 : decode cX8_doneMany 10 = .ok (.iaload, 1) := by decide +kernel
theorem dX8_doneMany_11 : decode cX8_doneMany 11 = .ok (.if_icmp .ge 27, 3) := by decide +kernel
theorem dX8_doneMany_14 : decode cX8_doneMany 14 = .ok (.iload_n 1, 1) := by decide +kernel
theorem dX8_doneMany_15 : decode cX8_doneMany 15 = .ok (.aload_n 0, 1) := by decide +kernel
theorem dX8_doneMany_16 : decode cX8_doneMany 16 = .ok (.iload_n 2, 1) := by decide +kernel
theorem dX8_doneMany_17 : decode cX8_doneMany 17 = .ok (.iconst 0, 1) := by decide +kernel
theorem dX8_doneMany_18 : decode cX8_doneMany 18 = .ok (.invokevirtual 217, 3) := by decide +kernel
theorem dX8_doneMany_21 : decode cX8_doneMany 21 = .ok (.iconst 3, 1) := by decide +kernel
theorem dX8_doneMany_22 : decode cX8_doneMany 22 = .ok (.if_icmp .ne 7, 3) := by decide +kernel
theorem dX8_doneMany_25 : decode cX8_doneMany 25 = .ok (.iconst 1, 1) := by decide +kernel
theorem dX8_doneMany_26 : decode cX8_doneMany 26 = .ok (.goto 4, 3) := by decide +kernel
theorem dX8_doneMany_29 : decode cX8_doneMany 29 = .ok (.iconst 0, 1) := by decide +kernel
theorem dX8_doneMany_30 : decode cX8_doneMany 30 = .ok (.iadd, 1) := by decide +kernel
theorem dX8_doneMany_31 : decode cX8_doneMany 31 = .ok (.istore_n 1, 1) := by decide +kernel
theorem dX8_doneMany_32 : decode cX8_doneMany 32 = .ok (.iinc 2 1, 3) := by decide +kernel
theorem dX8_doneMany_35 : decode cX8_doneMany 35 = .ok (.goto (-31), 3) := by decide +kernel
theorem dX8_doneMany_38 : decode cX8_doneMany 38 = .ok (.iload_n 1, 1) := by decide +kernel
theorem dX8_doneMany_39 : decode cX8_doneMany 39 = .ok (.ireturn, 1) := by decide +kernel
theorem dX8_size_0 : decode cX8_size 0 = .ok (.aload_n 0, 1) := by decide +kernel
theorem dX8_size_1 : decode cX8_size 1 = .ok (.iconst 0, 1) := by decide +kernel
theorem dX8_size_2 : decode cX8_size 2 = .ok (.putfield 71, 3) := by decide +kernel
theorem dX8_size_5 : decode cX8_size 5 = .ok (.aload_n 0, 1) := by decide +kernel
theorem dX8_size_6 : decode cX8_size 6 = .ok (.iload_n 1, 1) := by decide +kernel
theorem dX8_size_7 : decode cX8_size 7 = .ok (.iconst 0, 1) := by decide +kernel
theorem dX8_size_8 : decode cX8_size 8 = .ok (.bipush 10, 2) := by decide +kernel
theorem dX8_size_10 : decode cX8_size 10 = .ok (.invokestatic 95, 3) := by decide +kernel
theorem dX8_size_13 : decode cX8_size 13 = .ok (.ifCond .ne 7, 3) := by decide +kernel
theorem dX8_size_16 : decode cX8_size 16 = .ok (.iconst 1, 1) := by decide +kernel
theorem dX8_size_17 : decode cX8_size 17 = .ok (.goto 4, 3) := by decide +kernel
theorem dX8_size_20 : decode cX8_size 20 = .ok (.iconst 0, 1) := by decide +kernel
theorem dX8_size_21 : decode cX8_size 21 = .ok (.iconst 1, 1) := by decide +kernel
theorem dX8_size_22 : decode cX8_size 22 = .ok (.invokevirtual 194, 3) := by decide +kernel
theorem dX8_size_25 : decode cX8_size 25 = .ok (.ifCond .eq 5, 3) := by decide +kernel
theorem dX8_size_28 : decode cX8_size 28 = .ok (.iconst 0, 1) := by decide +kernel
theorem dX8_size_29 : decode cX8_size 29 = .ok (.ireturn, 1) := by decide +kernel
theorem dX8_size_30 : decode cX8_size 30 = .ok (.iload_n 1, 1) := by decide +kernel
theorem dX8_size_31 : decode cX8_size 31 = .ok (.tableswitch 101 0 10 #[57, 64, 101, 101, 101, 101, 71, 79, 86, 91, 96], 57) := by decide +kernel
theorem dX8_size_88 : decode cX8_size 88 = .ok (.aload_n 0, 1) := by decide +kernel
theorem dX8_size_89 : decode cX8_size 89 = .ok (.getfield 7, 3) := by decide +kernel
theorem dX8_size_92 : decode cX8_size 92 = .ok (.iconst 4, 1) := by decide +kernel
theorem dX8_size_93 : decode cX8_size 93 = .ok (.iaload, 1) := by decide +kernel
theorem dX8_size_94 : decode cX8_size 94 = .ok (.ireturn, 1) := by decide +kernel
theorem dX8_size_95 : decode cX8_size 95 = .ok (.aload_n 0, 1) := by decide +kernel
theorem dX8_size_96 : decode cX8_size 96 = .ok (.getfield 7, 3) := by decide +kernel
theorem dX8_size_99 : decode cX8_size 99 = .ok (.iconst 5, 1) := by decide +kernel
theorem dX8_size_100 : decode cX8_size 100 = .ok (.iaload, 1) := by decide +kernel
theorem dX8_size_101 : decode cX8_size 101 = .ok (.ireturn, 1) := by decide +kernel
theorem dX8_size_102 : decode cX8_size 102 = .ok (.aload_n 0, 1) := by decide +kernel
theorem dX8_size_103 : decode cX8_size 103 = .ok (.getfield 7, 3) := by decide +kernel
theorem dX8_size_106 : decode cX8_size 106 = .ok (.bipush 6, 2) := by decide +kernel
theorem dX8_size_108 : decode cX8_size 108 = .ok (.iaload, 1) := by decide +kernel
theorem dX8_size_109 : decode cX8_size 109 = .ok (.ireturn, 1) := by decide +kernel
theorem dX8_size_110 : decode cX8_size 110 = .ok (.aload_n 0, 1) := by decide +kernel
theorem dX8_size_111 : decode cX8_size 111 = .ok (.getfield 17, 3) := by decide +kernel
theorem dX8_size_114 : decode cX8_size 114 = .ok (.iconst 0, 1) := by decide +kernel
theorem dX8_size_115 : decode cX8_size 115 = .ok (.iaload, 1) := by decide +kernel
theorem dX8_size_116 : decode cX8_size 116 = .ok (.ireturn, 1) := by decide +kernel
theorem dX8_size_117 : decode cX8_size 117 = .ok (.aload_n 0, 1) := by decide +kernel
theorem dX8_size_118 : decode cX8_size 118 = .ok (.invokevirtual 297, 3) := by decide +kernel
theorem dX8_size_121 : decode cX8_size 121 = .ok (.ireturn, 1) := by decide +kernel
theorem dX8_size_122 : decode cX8_size 122 = .ok (.aload_n 0, 1) := by decide +kernel
theorem dX8_size_123 : decode cX8_size 123 = .ok (.invokevirtual 300, 3) := by decide +kernel
theorem dX8_size_126 : decode cX8_size 126 = .ok (.ireturn, 1) := by decide +kernel
theorem dX8_size_127 : decode cX8_size 127 = .ok (.aload_n 0, 1) := by decide +kernel
theorem dX8_size_128 : decode cX8_size 128 = .ok (.getfield 210, 3) := by decide +kernel
theorem dX8_size_131 : decode cX8_size 131 = .ok (.ireturn, 1) := by decide +kernel
theorem dX8_size_132 : decode cX8_size 132 = .ok (.aload_n 0, 1) := by decide +kernel
theorem dX8_size_133 : decode cX8_size 133 = .ok (.getfield 7, 3) := by decide +kernel
theorem dX8_size_136 : decode cX8_size 136 = .ok (.iload_n 1, 1) := by decide +kernel
theorem dX8_size_137 : decode cX8_size 137 = .ok (.iconst 2, 1) := by decide +kernel
theorem dX8_size_138 : decode cX8_size 138 = .ok (.isub, 1) := by decide +kernel
theorem dX8_size_139 : decode cX8_size 139 = .ok (.iaload, 1) := by decide +kernel
theorem dX8_size_140 : decode cX8_size 140 = .ok (.ireturn, 1) := by decide +kernel
theorem dX8_rate_0 : decode cX8_rate 0 = .ok (.aload_n 0, 1) := by decide +kernel
theorem dX8_rate_1 : decode cX8_rate 1 = .ok (.iconst 0, 1) := by decide +kernel
theorem dX8_rate_2 : decode cX8_rate 2 = .ok (.putfield 71, 3) := by decide +kernel
theorem dX8_rate_5 : decode cX8_rate 5 = .ok (.aload_n 0, 1) := by decide +kernel
theorem dX8_rate_6 : decode cX8_rate 6 = .ok (.iload_n 1, 1) := by decide +kernel
theorem dX8_rate_7 : decode cX8_rate 7 = .ok (.ifCond .ge 7, 3) := by decide +kernel
theorem dX8_rate_10 : decode cX8_rate 10 = .ok (.iconst 1, 1) := by decide +kernel
theorem dX8_rate_11 : decode cX8_rate 11 = .ok (.goto 4, 3) := by decide +kernel
theorem dX8_rate_14 : decode cX8_rate 14 = .ok (.iconst 0, 1) := by decide +kernel
theorem dX8_rate_15 : decode cX8_rate 15 = .ok (.iconst 1, 1) := by decide +kernel
theorem dX8_rate_16 : decode cX8_rate 16 = .ok (.invokevirtual 194, 3) := by decide +kernel
theorem dX8_rate_19 : decode cX8_rate 19 = .ok (.ifCond .eq 7, 3) := by decide +kernel
theorem dX8_rate_22 : decode cX8_rate 22 = .ok (.iconst 0, 1) := by decide +kernel
theorem dX8_rate_23 : decode cX8_rate 23 = .ok (.goto 8, 3) := by decide +kernel
theorem dX8_rate_26 : decode cX8_rate 26 = .ok (.aload_n 0, 1) := by decide +kernel
theorem dX8_rate_27 : decode cX8_rate 27 = .ok (.iload_n 1, 1) := by decide +kernel
theorem dX8_rate_28 : decode cX8_rate 28 = .ok (.invokevirtual 251, 3) := by decide +kernel
theorem dX8_rate_31 : decode cX8_rate 31 = .ok (.ireturn, 1) := by decide +kernel
theorem dX8_no_0 : decode cX8_no 0 = .ok (.aload_n 0, 1) := by decide +kernel
theorem dX8_no_1 : decode cX8_no 1 = .ok (.iload_n 1, 1) := by decide +kernel
theorem dX8_no_2 : decode cX8_no 2 = .ok (.iconst 0, 1) := by decide +kernel
theorem dX8_no_3 : decode cX8_no 3 = .ok (.iload_n 2, 1) := by decide +kernel
theorem dX8_no_4 : decode cX8_no 4 = .ok (.iconst 1, 1) := by decide +kernel
theorem dX8_no_5 : decode cX8_no 5 = .ok (.isub, 1) := by decide +kernel
theorem dX8_no_6 : decode cX8_no 6 = .ok (.invokestatic 95, 3) := by decide +kernel
theorem dX8_no_9 : decode cX8_no 9 = .ok (.ifCond .ne 7, 3) := by decide +kernel
theorem dX8_no_12 : decode cX8_no 12 = .ok (.iconst 1, 1) := by decide +kernel
theorem dX8_no_13 : decode cX8_no 13 = .ok (.goto 4, 3) := by decide +kernel
theorem dX8_no_16 : decode cX8_no 16 = .ok (.iconst 0, 1) := by decide +kernel
theorem dX8_no_17 : decode cX8_no 17 = .ok (.iconst 1, 1) := by decide +kernel
theorem dX8_no_18 : decode cX8_no 18 = .ok (.invokevirtual 194, 3) := by decide +kernel
theorem dX8_no_21 : decode cX8_no 21 = .ok (.ireturn, 1) := by decide +kernel
theorem dX8_noPlayer_0 : decode cX8_noPlayer 0 = .ok (.aload_n 0, 1) := by decide +kernel
theorem dX8_noPlayer_1 : decode cX8_noPlayer 1 = .ok (.iconst 0, 1) := by decide +kernel
theorem dX8_noPlayer_2 : decode cX8_noPlayer 2 = .ok (.putfield 71, 3) := by decide +kernel
theorem dX8_noPlayer_5 : decode cX8_noPlayer 5 = .ok (.aload_n 0, 1) := by decide +kernel
theorem dX8_noPlayer_6 : decode cX8_noPlayer 6 = .ok (.iload_n 1, 1) := by decide +kernel
theorem dX8_noPlayer_7 : decode cX8_noPlayer 7 = .ok (.aload_n 0, 1) := by decide +kernel
theorem dX8_noPlayer_8 : decode cX8_noPlayer 8 = .ok (.getfield 7, 3) := by decide +kernel
theorem dX8_noPlayer_11 : decode cX8_noPlayer 11 = .ok (.iconst 4, 1) := by decide +kernel
theorem dX8_noPlayer_12 : decode cX8_noPlayer 12 = .ok (.iaload, 1) := by decide +kernel
theorem dX8_noPlayer_13 : decode cX8_noPlayer 13 = .ok (.invokevirtual 303, 3) := by decide +kernel
theorem dX8_noPlayer_16 : decode cX8_noPlayer 16 = .ok (.ireturn, 1) := by decide +kernel
theorem dX8_player_0 : decode cX8_player 0 = .ok (.aload_n 0, 1) := by decide +kernel
theorem dX8_player_1 : decode cX8_player 1 = .ok (.iload_n 1, 1) := by decide +kernel
theorem dX8_player_2 : decode cX8_player 2 = .ok (.invokevirtual 306, 3) := by decide +kernel
theorem dX8_player_5 : decode cX8_player 5 = .ok (.ifCond .ne 26, 3) := by decide +kernel
theorem dX8_player_8 : decode cX8_player 8 = .ok (.aload_n 0, 1) := by decide +kernel
theorem dX8_player_9 : decode cX8_player 9 = .ok (.iload_n 2, 1) := by decide +kernel
theorem dX8_player_10 : decode cX8_player 10 = .ok (.iconst 0, 1) := by decide +kernel
theorem dX8_player_11 : decode cX8_player 11 = .ok (.bipush 16, 2) := by decide +kernel
theorem dX8_player_13 : decode cX8_player 13 = .ok (.invokestatic 95, 3) := by decide +kernel
theorem dX8_player_16 : decode cX8_player 16 = .ok (.ifCond .ne 7, 3) := by decide +kernel
theorem dX8_player_19 : decode cX8_player 19 = .ok (.iconst 1, 1) := by decide +kernel
theorem dX8_player_20 : decode cX8_player 20 = .ok (.goto 4, 3) := by decide +kernel
theorem dX8_player_23 : decode cX8_player 23 = .ok (.iconst 0, 1) := by decide +kernel
theorem dX8_player_24 : decode cX8_player 24 = .ok (.iconst 2, 1) := by decide +kernel
theorem dX8_player_25 : decode cX8_player 25 = .ok (.invokevirtual 194, 3) := by decide +kernel
theorem dX8_player_28 : decode cX8_player 28 = .ok (.ifCond .eq 5, 3) := by decide +kernel
theorem dX8_player_31 : decode cX8_player 31 = .ok (.iconst 0, 1) := by decide +kernel
theorem dX8_player_32 : decode cX8_player 32 = .ok (.ireturn, 1) := by decide +kernel
theorem dX8_player_33 : decode cX8_player 33 = .ok (.iload_n 2, 1) := by decide +kernel
theorem dX8_player_34 : decode cX8_player 34 = .ok (.iconst 4, 1) := by decide +kernel
theorem dX8_player_35 : decode cX8_player 35 = .ok (.if_icmp .ne 24, 3) := by decide +kernel
theorem dX8_player_38 : decode cX8_player 38 = .ok (.aload_n 0, 1) := by decide +kernel
theorem dX8_player_39 : decode cX8_player 39 = .ok (.iload_n 1, 1) := by decide +kernel
theorem dX8_player_40 : decode cX8_player 40 = .ok (.iconst 3, 1) := by decide +kernel
theorem dX8_player_41 : decode cX8_player 41 = .ok (.invokevirtual 217, 3) := by decide +kernel
theorem dX8_player_44 : decode cX8_player 44 = .ok (.iconst (-1), 1) := by decide +kernel
theorem dX8_player_45 : decode cX8_player 45 = .ok (.if_icmp .ne 7, 3) := by decide +kernel
theorem dX8_player_48 : decode cX8_player 48 = .ok (.iconst 0, 1) := by decide +kernel
theorem dX8_player_49 : decode cX8_player 49 = .ok (.goto 9, 3) := by decide +kernel
theorem dX8_player_52 : decode cX8_player 52 = .ok (.aload_n 0, 1) := by decide +kernel
theorem dX8_player_53 : decode cX8_player 53 = .ok (.iload_n 1, 1) := by decide +kernel
theorem dX8_player_54 : decode cX8_player 54 = .ok (.iconst 4, 1) := by decide +kernel
theorem dX8_player_55 : decode cX8_player 55 = .ok (.invokevirtual 217, 3) := by decide +kernel
theorem dX8_player_58 : decode cX8_player 58 = .ok (.ireturn, 1) := by decide +kernel
theorem dX8_player_59 : decode cX8_player 59 = .ok (.iload_n 2, 1) := by decide +kernel
theorem dX8_player_60 : decode cX8_player 60 = .ok (.bipush 14, 2) := by decide +kernel
theorem dX8_player_62 : decode cX8_player 62 = .ok (.if_icmp .ge 12, 3) := by decide +kernel
theorem dX8_player_65 : decode cX8_player 65 = .ok (.aload_n 0, 1) := by decide +kernel
theorem dX8_player_66 : decode cX8_player 66 = .ok (.iload_n 1, 1) := by decide +kernel
theorem dX8_player_67 : decode cX8_player 67 = .ok (.iload_n 2, 1) := by decide +kernel
theorem dX8_player_68 : decode cX8_player 68 = .ok (.invokevirtual 217, 3) := by decide +kernel
theorem dX8_player_71 : decode cX8_player 71 = .ok (.goto 12, 3) := by decide +kernel
theorem dX8_player_74 : decode cX8_player 74 = .ok (.aload_n 0, 1) := by decide +kernel
theorem dX8_player_75 : decode cX8_player 75 = .ok (.iload_n 1, 1) := by decide +kernel
theorem dX8_player_76 : decode cX8_player 76 = .ok (.iload_n 2, 1) := by decide +kernel
theorem dX8_player_77 : decode cX8_player 77 = .ok (.bipush 14, 2) := by decide +kernel
theorem dX8_player_79 : decode cX8_player 79 = .ok (.isub, 1) := by decide +kernel
theorem dX8_player_80 : decode cX8_player 80 = .ok (.invokevirtual 213, 3) := by decide +kernel
theorem dX8_player_83 : decode cX8_player 83 = .ok (.ireturn, 1) := by decide +kernel
theorem dX8_loaded_0 : decode cX8_loaded 0 = .ok (.aload_n 0, 1) := by decide +kernel
theorem dX8_loaded_1 : decode cX8_loaded 1 = .ok (.iload_n 1, 1) := by decide +kernel
theorem dX8_loaded_2 : decode cX8_loaded 2 = .ok (.invokevirtual 306, 3) := by decide +kernel
theorem dX8_loaded_5 : decode cX8_loaded 5 = .ok (.ifCond .ne 25, 3) := by decide +kernel
theorem dX8_loaded_8 : decode cX8_loaded 8 = .ok (.aload_n 0, 1) := by decide +kernel
theorem dX8_loaded_9 : decode cX8_loaded 9 = .ok (.iload_n 3, 1) := by decide +kernel
theorem dX8_loaded_10 : decode cX8_loaded 10 = .ok (.iconst 0, 1) := by decide +kernel
theorem dX8_loaded_11 : decode cX8_loaded 11 = .ok (.iconst 3, 1) := by decide +kernel
theorem dX8_loaded_12 : decode cX8_loaded 12 = .ok (.invokestatic 95, 3) := by decide +kernel
theorem dX8_loaded_15 : decode cX8_loaded 15 = .ok (.ifCond .ne 7, 3) := by decide +kernel
theorem dX8_loaded_18 : decode cX8_loaded 18 = .ok (.iconst 1, 1) := by decide +kernel
theorem dX8_loaded_19 : decode cX8_loaded 19 = .ok (.goto 4, 3) := by decide +kernel
theorem dX8_loaded_22 : decode cX8_loaded 22 = .ok (.iconst 0, 1) := by decide +kernel
theorem dX8_loaded_23 : decode cX8_loaded 23 = .ok (.iconst 2, 1) := by decide +kernel
theorem dX8_loaded_24 : decode cX8_loaded 24 = .ok (.invokevirtual 194, 3) := by decide +kernel
theorem dX8_loaded_27 : decode cX8_loaded 27 = .ok (.ifCond .eq 5, 3) := by decide +kernel
theorem dX8_loaded_30 : decode cX8_loaded 30 = .ok (.iconst 0, 1) := by decide +kernel
theorem dX8_loaded_31 : decode cX8_loaded 31 = .ok (.ireturn, 1) := by decide +kernel
theorem dX8_loaded_32 : decode cX8_loaded 32 = .ok (.iload_n 2, 1) := by decide +kernel
theorem dX8_loaded_33 : decode cX8_loaded 33 = .ok (.iconst 0, 1) := by decide +kernel
theorem dX8_loaded_34 : decode cX8_loaded 34 = .ok (.aload_n 0, 1) := by decide +kernel
theorem dX8_loaded_35 : decode cX8_loaded 35 = .ok (.iload_n 1, 1) := by decide +kernel
theorem dX8_loaded_36 : decode cX8_loaded 36 = .ok (.iconst 2, 1) := by decide +kernel
theorem dX8_loaded_37 : decode cX8_loaded 37 = .ok (.invokevirtual 217, 3) := by decide +kernel
theorem dX8_loaded_40 : decode cX8_loaded 40 = .ok (.iconst 1, 1) := by decide +kernel
theorem dX8_loaded_41 : decode cX8_loaded 41 = .ok (.isub, 1) := by decide +kernel
theorem dX8_loaded_42 : decode cX8_loaded 42 = .ok (.invokestatic 95, 3) := by decide +kernel
theorem dX8_loaded_45 : decode cX8_loaded 45 = .ok (.ifCond .ne 5, 3) := by decide +kernel
theorem dX8_loaded_48 : decode cX8_loaded 48 = .ok (.iconst (-1), 1) := by decide +kernel
theorem dX8_loaded_49 : decode cX8_loaded 49 = .ok (.ireturn, 1) := by decide +kernel
theorem dX8_loaded_50 : decode cX8_loaded 50 = .ok (.aload_n 0, 1) := by decide +kernel
theorem dX8_loaded_51 : decode cX8_loaded 51 = .ok (.iload_n 1, 1) := by decide +kernel
theorem dX8_loaded_52 : decode cX8_loaded 52 = .ok (.bipush 15, 2) := by decide +kernel
theorem dX8_loaded_54 : decode cX8_loaded 54 = .ok (.iconst 3, 1) := by decide +kernel
theorem dX8_loaded_55 : decode cX8_loaded 55 = .ok (.iload_n 2, 1) := by decide +kernel
theorem dX8_loaded_56 : decode cX8_loaded 56 = .ok (.imul, 1) := by decide +kernel
theorem dX8_loaded_57 : decode cX8_loaded 57 = .ok (.iadd, 1) := by decide +kernel
theorem dX8_loaded_58 : decode cX8_loaded 58 = .ok (.invokevirtual 217, 3) := by decide +kernel
theorem dX8_loaded_61 : decode cX8_loaded 61 = .ok (.istore 4, 2) := by decide +kernel
theorem dX8_loaded_63 : decode cX8_loaded 63 = .ok (.iload_n 3, 1) := by decide +kernel
theorem dX8_loaded_64 : decode cX8_loaded 64 = .ok (.ifCond .ne 8, 3) := by decide +kernel
theorem dX8_loaded_67 : decode cX8_loaded 67 = .ok (.iload 4, 2) := by decide +kernel
theorem dX8_loaded_69 : decode cX8_loaded 69 = .ok (.goto 34, 3) := by decide +kernel
theorem dX8_loaded_72 : decode cX8_loaded 72 = .ok (.iload_n 3, 1) := by decide +kernel
theorem dX8_loaded_73 : decode cX8_loaded 73 = .ok (.iconst 1, 1) := by decide +kernel
theorem dX8_loaded_74 : decode cX8_loaded 74 = .ok (.if_icmp .ne 14, 3) := by decide +kernel
theorem dX8_loaded_77 : decode cX8_loaded 77 = .ok (.aload_n 0, 1) := by decide +kernel
theorem dX8_loaded_78 : decode cX8_loaded 78 = .ok (.iload_n 1, 1) := by decide +kernel
theorem dX8_loaded_79 : decode cX8_loaded 79 = .ok (.iload_n 2, 1) := by decide +kernel
theorem dX8_loaded_80 : decode cX8_loaded 80 = .ok (.iload 4, 2) := by decide +kernel
theorem dX8_loaded_82 : decode cX8_loaded 82 = .ok (.invokevirtual 223, 3) := by decide +kernel
theorem dX8_loaded_85 : decode cX8_loaded 85 = .ok (.goto 18, 3) := by decide +kernel
theorem dX8_loaded_88 : decode cX8_loaded 88 = .ok (.aload_n 0, 1) := by decide +kernel
theorem dX8_loaded_89 : decode cX8_loaded 89 = .ok (.iload_n 1, 1) := by decide +kernel
theorem dX8_loaded_90 : decode cX8_loaded 90 = .ok (.bipush 15, 2) := by decide +kernel
theorem dX8_loaded_92 : decode cX8_loaded 92 = .ok (.iconst 3, 1) := by decide +kernel
theorem dX8_loaded_93 : decode cX8_loaded 93 = .ok (.iload_n 2, 1) := by decide +kernel
theorem dX8_loaded_94 : decode cX8_loaded 94 = .ok (.imul, 1) := by decide +kernel
theorem dX8_loaded_95 : decode cX8_loaded 95 = .ok (.iadd, 1) := by decide +kernel
theorem dX8_loaded_96 : decode cX8_loaded 96 = .ok (.iload_n 3, 1) := by decide +kernel
theorem dX8_loaded_97 : decode cX8_loaded 97 = .ok (.iadd, 1) := by decide +kernel
theorem dX8_loaded_98 : decode cX8_loaded 98 = .ok (.iconst 1, 1) := by decide +kernel
theorem dX8_loaded_99 : decode cX8_loaded 99 = .ok (.isub, 1) := by decide +kernel
theorem dX8_loaded_100 : decode cX8_loaded 100 = .ok (.invokevirtual 217, 3) := by decide +kernel
theorem dX8_loaded_103 : decode cX8_loaded 103 = .ok (.ireturn, 1) := by decide +kernel
theorem dX8_sizeOf_0 : decode cX8_sizeOf 0 = .ok (.aload_n 0, 1) := by decide +kernel
theorem dX8_sizeOf_1 : decode cX8_sizeOf 1 = .ok (.iload_n 1, 1) := by decide +kernel
theorem dX8_sizeOf_2 : decode cX8_sizeOf 2 = .ok (.invokevirtual 306, 3) := by decide +kernel
theorem dX8_sizeOf_5 : decode cX8_sizeOf 5 = .ok (.ifCond .ne 48, 3) := by decide +kernel
theorem dX8_sizeOf_8 : decode cX8_sizeOf 8 = .ok (.aload_n 0, 1) := by decide +kernel
theorem dX8_sizeOf_9 : decode cX8_sizeOf 9 = .ok (.iload_n 2, 1) := by decide +kernel
theorem dX8_sizeOf_10 : decode cX8_sizeOf 10 = .ok (.iconst 0, 1) := by decide +kernel
theorem dX8_sizeOf_11 : decode cX8_sizeOf 11 = .ok (.aload_n 0, 1) := by decide +kernel
theorem dX8_sizeOf_12 : decode cX8_sizeOf 12 = .ok (.iload_n 1, 1) := by decide +kernel
theorem dX8_sizeOf_13 : decode cX8_sizeOf 13 = .ok (.iconst 0, 1) := by decide +kernel
theorem dX8_sizeOf_14 : decode cX8_sizeOf 14 = .ok (.invokevirtual 213, 3) := by decide +kernel
theorem dX8_sizeOf_17 : decode cX8_sizeOf 17 = .ok (.iconst 1, 1) := by decide +kernel
theorem dX8_sizeOf_18 : decode cX8_sizeOf 18 = .ok (.isub, 1) := by decide +kernel
theorem dX8_sizeOf_19 : decode cX8_sizeOf 19 = .ok (.invokestatic 95, 3) := by decide +kernel
theorem dX8_sizeOf_22 : decode cX8_sizeOf 22 = .ok (.ifCond .eq 19, 3) := by decide +kernel
theorem dX8_sizeOf_25 : decode cX8_sizeOf 25 = .ok (.iload_n 3, 1) := by decide +kernel
theorem dX8_sizeOf_26 : decode cX8_sizeOf 26 = .ok (.iconst 0, 1) := by decide +kernel
theorem dX8_sizeOf_27 : decode cX8_sizeOf 27 = .ok (.aload_n 0, 1) := by decide +kernel
theorem dX8_sizeOf_28 : decode cX8_sizeOf 28 = .ok (.iload_n 1, 1) := by decide +kernel
theorem dX8_sizeOf_29 : decode cX8_sizeOf 29 = .ok (.iconst 1, 1) := by decide +kernel
theorem dX8_sizeOf_30 : decode cX8_sizeOf 30 = .ok (.invokevirtual 213, 3) := by decide +kernel
theorem dX8_sizeOf_33 : decode cX8_sizeOf 33 = .ok (.iconst 1, 1) := by decide +kernel
theorem dX8_sizeOf_34 : decode cX8_sizeOf 34 = .ok (.isub, 1) := by decide +kernel
theorem dX8_sizeOf_35 : decode cX8_sizeOf 35 = .ok (.invokestatic 95, 3) := by decide +kernel
theorem dX8_sizeOf_38 : decode cX8_sizeOf 38 = .ok (.ifCond .ne 7, 3) := by decide +kernel
theorem dX8_sizeOf_41 : decode cX8_sizeOf 41 = .ok (.iconst 1, 1) := by decide +kernel
theorem dX8_sizeOf_42 : decode cX8_sizeOf 42 = .ok (.goto 4, 3) := by decide +kernel
theorem dX8_sizeOf_45 : decode cX8_sizeOf 45 = .ok (.iconst 0, 1) := by decide +kernel
theorem dX8_sizeOf_46 : decode cX8_sizeOf 46 = .ok (.iconst 2, 1) := by decide +kernel
theorem dX8_sizeOf_47 : decode cX8_sizeOf 47 = .ok (.invokevirtual 194, 3) := by decide +kernel
theorem dX8_sizeOf_50 : decode cX8_sizeOf 50 = .ok (.ifCond .eq 5, 3) := by decide +kernel
theorem dX8_sizeOf_53 : decode cX8_sizeOf 53 = .ok (.iconst 0, 1) := by decide +kernel
theorem dX8_sizeOf_54 : decode cX8_sizeOf 54 = .ok (.ireturn, 1) := by decide +kernel
theorem dX8_sizeOf_55 : decode cX8_sizeOf 55 = .ok (.aload_n 0, 1) := by decide +kernel
theorem dX8_sizeOf_56 : decode cX8_sizeOf 56 = .ok (.iload_n 1, 1) := by decide +kernel
theorem dX8_sizeOf_57 : decode cX8_sizeOf 57 = .ok (.iload_n 2, 1) := by decide +kernel
theorem dX8_sizeOf_58 : decode cX8_sizeOf 58 = .ok (.iload_n 3, 1) := by decide +kernel
theorem dX8_sizeOf_59 : decode cX8_sizeOf 59 = .ok (.invokevirtual 223, 3) := by decide +kernel
theorem dX8_sizeOf_62 : decode cX8_sizeOf 62 = .ok (.ireturn, 1) := by decide +kernel
theorem dX8_wouldChoose_0 : decode cX8_wouldChoose 0 = .ok (.aload_n 0, 1) := by decide +kernel
theorem dX8_wouldChoose_1 : decode cX8_wouldChoose 1 = .ok (.iload_n 1, 1) := by decide +kernel
theorem dX8_wouldChoose_2 : decode cX8_wouldChoose 2 = .ok (.invokevirtual 306, 3) := by decide +kernel
theorem dX8_wouldChoose_5 : decode cX8_wouldChoose 5 = .ok (.ifCond .eq 7, 3) := by decide +kernel
theorem dX8_wouldChoose_8 : decode cX8_wouldChoose 8 = .ok (.iconst 0, 1) := by decide +kernel
theorem dX8_wouldChoose_9 : decode cX8_wouldChoose 9 = .ok (.goto 20, 3) := by decide +kernel
theorem dX8_wouldChoose_12 : decode cX8_wouldChoose 12 = .ok (.aload_n 0, 1) := by decide +kernel
theorem dX8_wouldChoose_13 : decode cX8_wouldChoose 13 = .ok (.iload_n 1, 1) := by decide +kernel
theorem dX8_wouldChoose_14 : decode cX8_wouldChoose 14 = .ok (.invokevirtual 291, 3) := by decide +kernel
theorem dX8_wouldChoose_17 : decode cX8_wouldChoose 17 = .ok (.ifCond .eq 7, 3) := by decide +kernel
theorem dX8_wouldChoose_20 : decode cX8_wouldChoose 20 = .ok (.iconst (-1), 1) := by decide +kernel
theorem dX8_wouldChoose_21 : decode cX8_wouldChoose 21 = .ok (.goto 8, 3) := by decide +kernel
theorem dX8_wouldChoose_24 : decode cX8_wouldChoose 24 = .ok (.aload_n 0, 1) := by decide +kernel
theorem dX8_wouldChoose_25 : decode cX8_wouldChoose 25 = .ok (.iload_n 1, 1) := by decide +kernel
theorem dX8_wouldChoose_26 : decode cX8_wouldChoose 26 = .ok (.invokevirtual 239, 3) := by decide +kernel
theorem dX8_wouldChoose_29 : decode cX8_wouldChoose 29 = .ok (.ireturn, 1) := by decide +kernel
theorem dX8_share_0 : decode cX8_share 0 = .ok (.aload_n 0, 1) := by decide +kernel
theorem dX8_share_1 : decode cX8_share 1 = .ok (.iload_n 1, 1) := by decide +kernel
theorem dX8_share_2 : decode cX8_share 2 = .ok (.invokevirtual 306, 3) := by decide +kernel
theorem dX8_share_5 : decode cX8_share 5 = .ok (.ifCond .eq 5, 3) := by decide +kernel
theorem dX8_share_8 : decode cX8_share 8 = .ok (.iconst 0, 1) := by decide +kernel
theorem dX8_share_9 : decode cX8_share 9 = .ok (.ireturn, 1) := by decide +kernel
theorem dX8_share_10 : decode cX8_share 10 = .ok (.aload_n 0, 1) := by decide +kernel
theorem dX8_share_11 : decode cX8_share 11 = .ok (.iload_n 1, 1) := by decide +kernel
theorem dX8_share_12 : decode cX8_share 12 = .ok (.bipush 10, 2) := by decide +kernel
theorem dX8_share_14 : decode cX8_share 14 = .ok (.invokevirtual 217, 3) := by decide +kernel
theorem dX8_share_17 : decode cX8_share 17 = .ok (.istore_n 2, 1) := by decide +kernel
theorem dX8_share_18 : decode cX8_share 18 = .ok (.aload_n 0, 1) := by decide +kernel
theorem dX8_share_19 : decode cX8_share 19 = .ok (.getfield 17, 3) := by decide +kernel
theorem dX8_share_22 : decode cX8_share 22 = .ok (.iconst 0, 1) := by decide +kernel
theorem dX8_share_23 : decode cX8_share 23 = .ok (.aload_n 0, 1) := by decide +kernel
theorem dX8_share_24 : decode cX8_share 24 = .ok (.getfield 52, 3) := by decide +kernel
theorem dX8_share_27 : decode cX8_share 27 = .ok (.iconst 0, 1) := by decide +kernel
theorem dX8_share_28 : decode cX8_share 28 = .ok (.invokestatic 275, 3) := by decide +kernel
theorem dX8_share_31 : decode cX8_share 31 = .ok (.aload_n 0, 1) := by decide +kernel
theorem dX8_share_32 : decode cX8_share 32 = .ok (.invokevirtual 282, 3) := by decide +kernel
theorem dX8_share_35 : decode cX8_share 35 = .ok (.aload_n 0, 1) := by decide +kernel
theorem dX8_share_36 : decode cX8_share 36 = .ok (.iload_n 1, 1) := by decide +kernel
theorem dX8_share_37 : decode cX8_share 37 = .ok (.bipush 10, 2) := by decide +kernel
theorem dX8_share_39 : decode cX8_share 39 = .ok (.invokevirtual 217, 3) := by decide +kernel
theorem dX8_share_42 : decode cX8_share 42 = .ok (.iload_n 2, 1) := by decide +kernel
theorem dX8_share_43 : decode cX8_share 43 = .ok (.isub, 1) := by decide +kernel
theorem dX8_share_44 : decode cX8_share 44 = .ok (.istore_n 3, 1) := by decide +kernel
theorem dX8_share_45 : decode cX8_share 45 = .ok (.aload_n 0, 1) := by decide +kernel
theorem dX8_share_46 : decode cX8_share 46 = .ok (.invokevirtual 288, 3) := by decide +kernel
theorem dX8_share_49 : decode cX8_share 49 = .ok (.iload_n 3, 1) := by decide +kernel
theorem dX8_share_50 : decode cX8_share 50 = .ok (.ireturn, 1) := by decide +kernel
theorem dX8_forecast_0 : decode cX8_forecast 0 = .ok (.aload_n 0, 1) := by decide +kernel
theorem dX8_forecast_1 : decode cX8_forecast 1 = .ok (.iload_n 1, 1) := by decide +kernel
theorem dX8_forecast_2 : decode cX8_forecast 2 = .ok (.invokevirtual 306, 3) := by decide +kernel
theorem dX8_forecast_5 : decode cX8_forecast 5 = .ok (.ifCond .ne 25, 3) := by decide +kernel
theorem dX8_forecast_8 : decode cX8_forecast 8 = .ok (.aload_n 0, 1) := by decide +kernel
theorem dX8_forecast_9 : decode cX8_forecast 9 = .ok (.iload_n 2, 1) := by decide +kernel
theorem dX8_forecast_10 : decode cX8_forecast 10 = .ok (.iconst 0, 1) := by decide +kernel
theorem dX8_forecast_11 : decode cX8_forecast 11 = .ok (.iconst 5, 1) := by decide +kernel
theorem dX8_forecast_12 : decode cX8_forecast 12 = .ok (.invokestatic 95, 3) := by decide +kernel
theorem dX8_forecast_15 : decode cX8_forecast 15 = .ok (.ifCond .ne 7, 3) := by decide +kernel
theorem dX8_forecast_18 : decode cX8_forecast 18 = .ok (.iconst 1, 1) := by decide +kernel
theorem dX8_forecast_19 : decode cX8_forecast 19 = .ok (.goto 4, 3) := by decide +kernel
theorem dX8_forecast_22 : decode cX8_forecast 22 = .ok (.iconst 0, 1) := by decide +kernel
theorem dX8_forecast_23 : decode cX8_forecast 23 = .ok (.iconst 2, 1) := by decide +kernel
theorem dX8_forecast_24 : decode cX8_forecast 24 = .ok (.invokevirtual 194, 3) := by decide +kernel
theorem dX8_forecast_27 : decode cX8_forecast 27 = .ok (.ifCond .eq 5, 3) := by decide +kernel
theorem dX8_forecast_30 : decode cX8_forecast 30 = .ok (.iconst 0, 1) := by decide +kernel
theorem dX8_forecast_31 : decode cX8_forecast 31 = .ok (.ireturn, 1) := by decide +kernel
theorem dX8_forecast_32 : decode cX8_forecast 32 = .ok (.aload_n 0, 1) := by decide +kernel
theorem dX8_forecast_33 : decode cX8_forecast 33 = .ok (.invokevirtual 285, 3) := by decide +kernel
theorem dX8_forecast_36 : decode cX8_forecast 36 = .ok (.iload_n 2, 1) := by decide +kernel
theorem dX8_forecast_37 : decode cX8_forecast 37 = .ok (.iconst 4, 1) := by decide +kernel
theorem dX8_forecast_38 : decode cX8_forecast 38 = .ok (.if_icmp .ge 15, 3) := by decide +kernel
theorem dX8_forecast_41 : decode cX8_forecast 41 = .ok (.aload_n 0, 1) := by decide +kernel
theorem dX8_forecast_42 : decode cX8_forecast 42 = .ok (.iload_n 1, 1) := by decide +kernel
theorem dX8_forecast_43 : decode cX8_forecast 43 = .ok (.bipush 6, 2) := by decide +kernel
theorem dX8_forecast_45 : decode cX8_forecast 45 = .ok (.iload_n 2, 1) := by decide +kernel
theorem dX8_forecast_46 : decode cX8_forecast 46 = .ok (.iadd, 1) := by decide +kernel
theorem dX8_forecast_47 : decode cX8_forecast 47 = .ok (.invokevirtual 217, 3) := by decide +kernel
theorem dX8_forecast_50 : decode cX8_forecast 50 = .ok (.goto 23, 3) := by decide +kernel
theorem dX8_forecast_53 : decode cX8_forecast 53 = .ok (.iload_n 2, 1) := by decide +kernel
theorem dX8_forecast_54 : decode cX8_forecast 54 = .ok (.iconst 4, 1) := by decide +kernel
theorem dX8_forecast_55 : decode cX8_forecast 55 = .ok (.if_icmp .ne 12, 3) := by decide +kernel
theorem dX8_forecast_58 : decode cX8_forecast 58 = .ok (.aload_n 0, 1) := by decide +kernel
theorem dX8_forecast_59 : decode cX8_forecast 59 = .ok (.iload_n 1, 1) := by decide +kernel
theorem dX8_forecast_60 : decode cX8_forecast 60 = .ok (.iconst 2, 1) := by decide +kernel
theorem dX8_forecast_61 : decode cX8_forecast 61 = .ok (.invokevirtual 217, 3) := by decide +kernel
theorem dX8_forecast_64 : decode cX8_forecast 64 = .ok (.goto 9, 3) := by decide +kernel
theorem dX8_forecast_67 : decode cX8_forecast 67 = .ok (.aload_n 0, 1) := by decide +kernel
theorem dX8_forecast_68 : decode cX8_forecast 68 = .ok (.getfield 17, 3) := by decide +kernel
theorem dX8_forecast_71 : decode cX8_forecast 71 = .ok (.iconst 0, 1) := by decide +kernel
theorem dX8_forecast_72 : decode cX8_forecast 72 = .ok (.iaload, 1) := by decide +kernel
theorem dX8_forecast_73 : decode cX8_forecast 73 = .ok (.istore_n 3, 1) := by decide +kernel
theorem dX8_forecast_74 : decode cX8_forecast 74 = .ok (.aload_n 0, 1) := by decide +kernel
theorem dX8_forecast_75 : decode cX8_forecast 75 = .ok (.invokevirtual 288, 3) := by decide +kernel
theorem dX8_forecast_78 : decode cX8_forecast 78 = .ok (.iload_n 3, 1) := by decide +kernel
theorem dX8_forecast_79 : decode cX8_forecast 79 = .ok (.ireturn, 1) := by decide +kernel
theorem dX8_steadyQuality_0 : decode cX8_steadyQuality 0 = .ok (.aload_n 0, 1) := by decide +kernel
theorem dX8_steadyQuality_1 : decode cX8_steadyQuality 1 = .ok (.iload_n 1, 1) := by decide +kernel
theorem dX8_steadyQuality_2 : decode cX8_steadyQuality 2 = .ok (.invokevirtual 306, 3) := by decide +kernel
theorem dX8_steadyQuality_5 : decode cX8_steadyQuality 5 = .ok (.ifCond .eq 7, 3) := by decide +kernel
theorem dX8_steadyQuality_8 : decode cX8_steadyQuality 8 = .ok (.iconst 0, 1) := by decide +kernel
theorem dX8_steadyQuality_9 : decode cX8_steadyQuality 9 = .ok (.goto 8, 3) := by decide +kernel
theorem dX8_steadyQuality_12 : decode cX8_steadyQuality 12 = .ok (.aload_n 0, 1) := by decide +kernel
theorem dX8_steadyQuality_13 : decode cX8_steadyQuality 13 = .ok (.iload_n 1, 1) := by decide +kernel
theorem dX8_steadyQuality_14 : decode cX8_steadyQuality 14 = .ok (.invokevirtual 309, 3) := by decide +kernel
theorem dX8_steadyQuality_17 : decode cX8_steadyQuality 17 = .ok (.ireturn, 1) := by decide +kernel
theorem dX8_oracle_0 : decode cX8_oracle 0 = .ok (.aload_n 0, 1) := by decide +kernel
theorem dX8_oracle_1 : decode cX8_oracle 1 = .ok (.iload_n 1, 1) := by decide +kernel
theorem dX8_oracle_2 : decode cX8_oracle 2 = .ok (.invokevirtual 306, 3) := by decide +kernel
theorem dX8_oracle_5 : decode cX8_oracle 5 = .ok (.ifCond .eq 5, 3) := by decide +kernel
theorem dX8_oracle_8 : decode cX8_oracle 8 = .ok (.iconst 0, 1) := by decide +kernel
theorem dX8_oracle_9 : decode cX8_oracle 9 = .ok (.ireturn, 1) := by decide +kernel
theorem dX8_oracle_10 : decode cX8_oracle 10 = .ok (.aload_n 0, 1) := by decide +kernel
theorem dX8_oracle_11 : decode cX8_oracle 11 = .ok (.iload_n 1, 1) := by decide +kernel
theorem dX8_oracle_12 : decode cX8_oracle 12 = .ok (.invokevirtual 291, 3) := by decide +kernel
theorem dX8_oracle_15 : decode cX8_oracle 15 = .ok (.ifCond .ne 25, 3) := by decide +kernel
theorem dX8_oracle_18 : decode cX8_oracle 18 = .ok (.iload_n 2, 1) := by decide +kernel
theorem dX8_oracle_19 : decode cX8_oracle 19 = .ok (.iconst 0, 1) := by decide +kernel
theorem dX8_oracle_20 : decode cX8_oracle 20 = .ok (.aload_n 0, 1) := by decide +kernel
theorem dX8_oracle_21 : decode cX8_oracle 21 = .ok (.iload_n 1, 1) := by decide +kernel
theorem dX8_oracle_22 : decode cX8_oracle 22 = .ok (.iconst 0, 1) := by decide +kernel
theorem dX8_oracle_23 : decode cX8_oracle 23 = .ok (.invokevirtual 213, 3) := by decide +kernel
theorem dX8_oracle_26 : decode cX8_oracle 26 = .ok (.iconst 1, 1) := by decide +kernel
theorem dX8_oracle_27 : decode cX8_oracle 27 = .ok (.isub, 1) := by decide +kernel
theorem dX8_oracle_28 : decode cX8_oracle 28 = .ok (.aload_n 0, 1) := by decide +kernel
theorem dX8_oracle_29 : decode cX8_oracle 29 = .ok (.iload_n 1, 1) := by decide +kernel
theorem dX8_oracle_30 : decode cX8_oracle 30 = .ok (.invokevirtual 220, 3) := by decide +kernel
theorem dX8_oracle_33 : decode cX8_oracle 33 = .ok (.isub, 1) := by decide +kernel
theorem dX8_oracle_34 : decode cX8_oracle 34 = .ok (.invokestatic 95, 3) := by decide +kernel
theorem dX8_oracle_37 : decode cX8_oracle 37 = .ok (.ifCond .ne 5, 3) := by decide +kernel
theorem dX8_oracle_40 : decode cX8_oracle 40 = .ok (.iconst (-1), 1) := by decide +kernel
theorem dX8_oracle_41 : decode cX8_oracle 41 = .ok (.ireturn, 1) := by decide +kernel
theorem dX8_oracle_42 : decode cX8_oracle 42 = .ok (.aload_n 0, 1) := by decide +kernel
theorem dX8_oracle_43 : decode cX8_oracle 43 = .ok (.iload_n 1, 1) := by decide +kernel
theorem dX8_oracle_44 : decode cX8_oracle 44 = .ok (.invokevirtual 220, 3) := by decide +kernel
theorem dX8_oracle_47 : decode cX8_oracle 47 = .ok (.iload_n 2, 1) := by decide +kernel
theorem dX8_oracle_48 : decode cX8_oracle 48 = .ok (.iadd, 1) := by decide +kernel
theorem dX8_oracle_49 : decode cX8_oracle 49 = .ok (.istore_n 3, 1) := by decide +kernel
theorem dX8_oracle_50 : decode cX8_oracle 50 = .ok (.aload_n 0, 1) := by decide +kernel
theorem dX8_oracle_51 : decode cX8_oracle 51 = .ok (.iload_n 1, 1) := by decide +kernel
theorem dX8_oracle_52 : decode cX8_oracle 52 = .ok (.iload_n 3, 1) := by decide +kernel
theorem dX8_oracle_53 : decode cX8_oracle 53 = .ok (.invokevirtual 312, 3) := by decide +kernel
theorem dX8_oracle_56 : decode cX8_oracle 56 = .ok (.aload_n 0, 1) := by decide +kernel
theorem dX8_oracle_57 : decode cX8_oracle 57 = .ok (.getfield 49, 3) := by decide +kernel
theorem dX8_oracle_60 : decode cX8_oracle 60 = .ok (.iload_n 3, 1) := by decide +kernel
theorem dX8_oracle_61 : decode cX8_oracle 61 = .ok (.iaload, 1) := by decide +kernel
theorem dX8_oracle_62 : decode cX8_oracle 62 = .ok (.ireturn, 1) := by decide +kernel
theorem dX8_regret_0 : decode cX8_regret 0 = .ok (.aload_n 0, 1) := by decide +kernel
theorem dX8_regret_1 : decode cX8_regret 1 = .ok (.iload_n 1, 1) := by decide +kernel
theorem dX8_regret_2 : decode cX8_regret 2 = .ok (.invokevirtual 306, 3) := by decide +kernel
theorem dX8_regret_5 : decode cX8_regret 5 = .ok (.ifCond .ne 11, 3) := by decide +kernel
theorem dX8_regret_8 : decode cX8_regret 8 = .ok (.aload_n 0, 1) := by decide +kernel
theorem dX8_regret_9 : decode cX8_regret 9 = .ok (.iload_n 1, 1) := by decide +kernel
theorem dX8_regret_10 : decode cX8_regret 10 = .ok (.invokevirtual 291, 3) := by decide +kernel
theorem dX8_regret_13 : decode cX8_regret 13 = .ok (.ifCond .eq 5, 3) := by decide +kernel
theorem dX8_regret_16 : decode cX8_regret 16 = .ok (.iconst 0, 1) := by decide +kernel
theorem dX8_regret_17 : decode cX8_regret 17 = .ok (.ireturn, 1) := by decide +kernel
theorem dX8_regret_18 : decode cX8_regret 18 = .ok (.aload_n 0, 1) := by decide +kernel
theorem dX8_regret_19 : decode cX8_regret 19 = .ok (.iload_n 1, 1) := by decide +kernel
theorem dX8_regret_20 : decode cX8_regret 20 = .ok (.aload_n 0, 1) := by decide +kernel
theorem dX8_regret_21 : decode cX8_regret 21 = .ok (.iload_n 1, 1) := by decide +kernel
theorem dX8_regret_22 : decode cX8_regret 22 = .ok (.iconst 0, 1) := by decide +kernel
theorem dX8_regret_23 : decode cX8_regret 23 = .ok (.invokevirtual 213, 3) := by decide +kernel
theorem dX8_regret_26 : decode cX8_regret 26 = .ok (.iconst 1, 1) := by decide +kernel
theorem dX8_regret_27 : decode cX8_regret 27 = .ok (.isub, 1) := by decide +kernel
theorem dX8_regret_28 : decode cX8_regret 28 = .ok (.invokevirtual 312, 3) := by decide +kernel
theorem dX8_regret_31 : decode cX8_regret 31 = .ok (.aload_n 0, 1) := by decide +kernel
theorem dX8_regret_32 : decode cX8_regret 32 = .ok (.iload_n 1, 1) := by decide +kernel
theorem dX8_regret_33 : decode cX8_regret 33 = .ok (.iconst 1, 1) := by decide +kernel
theorem dX8_regret_34 : decode cX8_regret 34 = .ok (.invokevirtual 316, 3) := by decide +kernel
theorem dX8_regret_37 : decode cX8_regret 37 = .ok (.istore_n 2, 1) := by decide +kernel
