theorem dX9_init_5 : decode cX9_init 5 = .ok (.iconst (-1), 1) := by decide +kernel
theorem dX9_init_6 : decode cX9_init 6 = .ok (.putfield 7, 3) := by decide +kernel
theorem dX9_init_9 : decode cX9_init 9 = .ok (.aload_n 0, 1) := by decide +kernel
theorem dX9_init_10 : decode cX9_init 10 = .ok (.iconst 4, 1) := by decide +kernel
theorem dX9_init_11 : decode cX9_init 11 = .ok (.newarray .int, 2) := by decide +kernel
theorem dX9_init_13 : decode cX9_init 13 = .ok (.putfield 13, 3) := by decide +kernel
theorem dX9_init_16 : decode cX9_init 16 = .ok (.aload_n 0, 1) := by decide +kernel
theorem dX9_init_17 : decode cX9_init 17 = .ok (.bipush 30, 2) := by decide +kernel
theorem dX9_init_19 : decode cX9_init 19 = .ok (.newarray .int, 2) := by decide +kernel
theorem dX9_init_21 : decode cX9_init 21 = .ok (.putfield 17, 3) := by decide +kernel
theorem dX9_init_24 : decode cX9_init 24 = .ok (.aload_n 0, 1) := by decide +kernel
theorem dX9_init_25 : decode cX9_init 25 = .ok (.bipush 30, 2) := by decide +kernel
theorem dX9_init_27 : decode cX9_init 27 = .ok (.newarray .int, 2) := by decide +kernel
theorem dX9_init_29 : decode cX9_init 29 = .ok (.putfield 20, 3) := by decide +kernel
theorem dX9_init_32 : decode cX9_init 32 = .ok (.aload_n 0, 1) := by decide +kernel
theorem dX9_init_33 : decode cX9_init 33 = .ok (.bipush 30, 2) := by decide +kernel
theorem dX9_init_35 : decode cX9_init 35 = .ok (.newarray .int, 2) := by decide +kernel
theorem dX9_init_37 : decode cX9_init 37 = .ok (.putfield 23, 3) := by decide +kernel
theorem dX9_init_40 : decode cX9_init 40 = .ok (.aload_n 0, 1) := by decide +kernel
theorem dX9_init_41 : decode cX9_init 41 = .ok (.bipush 30, 2) := by decide +kernel
theorem dX9_init_43 : decode cX9_init 43 = .ok (.newarray .int, 2) := by decide +kernel
theorem dX9_init_45 : decode cX9_init 45 = .ok (.putfield 26, 3) := by decide +kernel
theorem dX9_init_48 : decode cX9_init 48 = .ok (.iconst 0, 1) := by decide +kernel
theorem dX9_init_49 : decode cX9_init 49 = .ok (.istore_n 1, 1) := by decide +kernel
theorem dX9_init_50 : decode cX9_init 50 = .ok (.iload_n 1, 1) := by decide +kernel
theorem dX9_init_51 : decode cX9_init 51 = .ok (.bipush 30, 2) := by decide +kernel
theorem dX9_init_53 : decode cX9_init 53 = .ok (.if_icmp .ge 16, 3) := by decide +kernel
theorem dX9_init_56 : decode cX9_init 56 = .ok (.aload_n 0, 1) := by decide +kernel
theorem dX9_init_57 : decode cX9_init 57 = .ok (.getfield 17, 3) := by decide +kernel
theorem dX9_init_60 : decode cX9_init 60 = .ok (.iload_n 1, 1) := by decide +kernel
theorem dX9_init_61 : decode cX9_init 61 = .ok (.iconst (-1), 1) := by decide +kernel
theorem dX9_init_62 : decode cX9_init 62 = .ok (.iastore, 1) := by decide +kernel
theorem dX9_init_63 : decode cX9_init 63 = .ok (.iinc 1 1, 3) := by decide +kernel
theorem dX9_init_66 : decode cX9_init 66 = .ok (.goto (-16), 3) := by decide +kernel
theorem dX9_init_69 : decode cX9_init 69 = .ok (.return_, 1) := by decide +kernel
theorem dX9_be_0 : decode cX9_be 0 = .ok (.aload_n 0, 1) := by decide +kernel
theorem dX9_be_1 : decode cX9_be 1 = .ok (.aload_n 1, 1) := by decide +kernel
theorem dX9_be_2 : decode cX9_be 2 = .ok (.getfield 29, 3) := by decide +kernel
theorem dX9_be_5 : decode cX9_be 5 = .ok (.putfield 29, 3) := by decide +kernel
theorem dX9_be_8 : decode cX9_be 8 = .ok (.aload_n 0, 1) := by decide +kernel
theorem dX9_be_9 : decode cX9_be 9 = .ok (.aload_n 1, 1) := by decide +kernel
theorem dX9_be_10 : decode cX9_be 10 = .ok (.getfield 32, 3) := by decide +kernel
theorem dX9_be_13 : decode cX9_be 13 = .ok (.putfield 32, 3) := by decide +kernel
theorem dX9_be_16 : decode cX9_be 16 = .ok (.aload_n 0, 1) := by decide +kernel
theorem dX9_be_17 : decode cX9_be 17 = .ok (.aload_n 1, 1) := by decide +kernel
theorem dX9_be_18 : decode cX9_be 18 = .ok (.getfield 35, 3) := by decide +kernel
theorem dX9_be_21 : decode cX9_be 21 = .ok (.putfield 35, 3) := by decide +kernel
theorem dX9_be_24 : decode cX9_be 24 = .ok (.aload_n 0, 1) := by decide +kernel
theorem dX9_be_25 : decode cX9_be 25 = .ok (.aload_n 1, 1) := by decide +kernel
theorem dX9_be_26 : decode cX9_be 26 = .ok (.getfield 38, 3) := by decide +kernel
theorem dX9_be_29 : decode cX9_be 29 = .ok (.putfield 38, 3) := by decide +kernel
theorem dX9_be_32 : decode cX9_be 32 = .ok (.aload_n 0, 1) := by decide +kernel
theorem dX9_be_33 : decode cX9_be 33 = .ok (.aload_n 1, 1) := by decide +kernel
theorem dX9_be_34 : decode cX9_be 34 = .ok (.getfield 41, 3) := by decide +kernel
theorem dX9_be_37 : decode cX9_be 37 = .ok (.putfield 41, 3) := by decide +kernel
theorem dX9_be_40 : decode cX9_be 40 = .ok (.aload_n 0, 1) := by decide +kernel
theorem dX9_be_41 : decode cX9_be 41 = .ok (.aload_n 1, 1) := by decide +kernel
theorem dX9_be_42 : decode cX9_be 42 = .ok (.getfield 44, 3) := by decide +kernel
theorem dX9_be_45 : decode cX9_be 45 = .ok (.putfield 44, 3) := by decide +kernel
theorem dX9_be_48 : decode cX9_be 48 = .ok (.aload_n 0, 1) := by decide +kernel
theorem dX9_be_49 : decode cX9_be 49 = .ok (.aload_n 1, 1) := by decide +kernel
theorem dX9_be_50 : decode cX9_be 50 = .ok (.getfield 47, 3) := by decide +kernel
theorem dX9_be_53 : decode cX9_be 53 = .ok (.putfield 47, 3) := by decide +kernel
theorem dX9_be_56 : decode cX9_be 56 = .ok (.aload_n 0, 1) := by decide +kernel
theorem dX9_be_57 : decode cX9_be 57 = .ok (.aload_n 1, 1) := by decide +kernel
theorem dX9_be_58 : decode cX9_be 58 = .ok (.getfield 50, 3) := by decide +kernel
theorem dX9_be_61 : decode cX9_be 61 = .ok (.putfield 50, 3) := by decide +kernel
theorem dX9_be_64 : decode cX9_be 64 = .ok (.aload_n 0, 1) := by decide +kernel
theorem dX9_be_65 : decode cX9_be 65 = .ok (.aload_n 1, 1) := by decide +kernel
theorem dX9_be_66 : decode cX9_be 66 = .ok (.getfield 7, 3) := by decide +kernel
theorem dX9_be_69 : decode cX9_be 69 = .ok (.putfield 7, 3) := by decide +kernel
theorem dX9_be_72 : decode cX9_be 72 = .ok (.aload_n 0, 1) := by decide +kernel
theorem dX9_be_73 : decode cX9_be 73 = .ok (.aload_n 1, 1) := by decide +kernel
theorem dX9_be_74 : decode cX9_be 74 = .ok (.getfield 53, 3) := by decide +kernel
theorem dX9_be_77 : decode cX9_be 77 = .ok (.putfield 53, 3) := by decide +kernel
theorem dX9_be_80 : decode cX9_be 80 = .ok (.aload_n 0, 1) := by decide +kernel
theorem dX9_be_81 : decode cX9_be 81 = .ok (.aload_n 1, 1) := by decide +kernel
theorem dX9_be_82 : decode cX9_be 82 = .ok (.getfield 56, 3) := by decide +kernel
theorem dX9_be_85 : decode cX9_be 85 = .ok (.putfield 56, 3) := by decide +kernel
theorem dX9_be_88 : decode cX9_be 88 = .ok (.aload_n 0, 1) := by decide +kernel
theorem dX9_be_89 : decode cX9_be 89 = .ok (.aload_n 1, 1) := by decide +kernel
theorem dX9_be_90 : decode cX9_be 90 = .ok (.getfield 59, 3) := by decide +kernel
theorem dX9_be_93 : decode cX9_be 93 = .ok (.putfield 59, 3) := by decide +kernel
theorem dX9_be_96 : decode cX9_be 96 = .ok (.aload_n 0, 1) := by decide +kernel
theorem dX9_be_97 : decode cX9_be 97 = .ok (.aload_n 1, 1) := by decide +kernel
theorem dX9_be_98 : decode cX9_be 98 = .ok (.getfield 62, 3) := by decide +kernel
theorem dX9_be_101 : decode cX9_be 101 = .ok (.putfield 62, 3) := by decide +kernel
theorem dX9_be_104 : decode cX9_be 104 = .ok (.aload_n 0, 1) := by decide +kernel
theorem dX9_be_105 : decode cX9_be 105 = .ok (.aload_n 1, 1) := by decide +kernel
theorem dX9_be_106 : decode cX9_be 106 = .ok (.getfield 65, 3) := by decide +kernel
theorem dX9_be_109 : decode cX9_be 109 = .ok (.putfield 65, 3) := by decide +kernel
theorem dX9_be_112 : decode cX9_be 112 = .ok (.aload_n 0, 1) := by decide +kernel
theorem dX9_be_113 : decode cX9_be 113 = .ok (.aload_n 1, 1) := by decide +kernel
theorem dX9_be_114 : decode cX9_be 114 = .ok (.getfield 68, 3) := by decide +kernel
theorem dX9_be_117 : decode cX9_be 117 = .ok (.putfield 68, 3) := by decide +kernel
theorem dX9_be_120 : decode cX9_be 120 = .ok (.aload_n 0, 1) := by decide +kernel
theorem dX9_be_121 : decode cX9_be 121 = .ok (.aload_n 1, 1) := by decide +kernel
theorem dX9_be_122 : decode cX9_be 122 = .ok (.getfield 71, 3) := by decide +kernel
theorem dX9_be_125 : decode cX9_be 125 = .ok (.putfield 71, 3) := by decide +kernel
theorem dX9_be_128 : decode cX9_be 128 = .ok (.aload_n 0, 1) := by decide +kernel
theorem dX9_be_129 : decode cX9_be 129 = .ok (.aload_n 1, 1) := by decide +kernel
theorem dX9_be_130 : decode cX9_be 130 = .ok (.getfield 74, 3) := by decide +kernel
theorem dX9_be_133 : decode cX9_be 133 = .ok (.putfield 74, 3) := by decide +kernel
theorem dX9_be_136 : decode cX9_be 136 = .ok (.aload_n 0, 1) := by decide +kernel
theorem dX9_be_137 : decode cX9_be 137 = .ok (.aload_n 1, 1) := by decide +kernel
theorem dX9_be_138 : decode cX9_be 138 = .ok (.getfield 77, 3) := by decide +kernel
theorem dX9_be_141 : decode cX9_be 141 = .ok (.putfield 77, 3) := by decide +kernel
theorem dX9_be_144 : decode cX9_be 144 = .ok (.aload_n 1, 1) := by decide +kernel
theorem dX9_be_145 : decode cX9_be 145 = .ok (.getfield 13, 3) := by decide +kernel
theorem dX9_be_148 : decode cX9_be 148 = .ok (.iconst 0, 1) := by decide +kernel
theorem dX9_be_149 : decode cX9_be 149 = .ok (.aload_n 0, 1) := by decide +kernel
theorem dX9_be_150 : decode cX9_be 150 = .ok (.getfield 13, 3) := by decide +kernel
theorem dX9_be_153 : decode cX9_be 153 = .ok (.iconst 0, 1) := by decide +kernel
theorem dX9_be_154 : decode cX9_be 154 = .ok (.iconst 4, 1) := by decide +kernel
theorem dX9_be_155 : decode cX9_be 155 = .ok (.invokestatic 80, 3) := by decide +kernel
theorem dX9_be_158 : decode cX9_be 158 = .ok (.aload_n 1, 1) := by decide +kernel
theorem dX9_be_159 : decode cX9_be 159 = .ok (.getfield 17, 3) := by decide +kernel
theorem dX9_be_162 : decode cX9_be 162 = .ok (.iconst 0, 1) := by decide +kernel
theorem dX9_be_163 : decode cX9_be 163 = .ok (.aload_n 0, 1) := by decide +kernel
theorem dX9_be_164 : decode cX9_be 164 = .ok (.getfield 17, 3) := by decide +kernel
theorem dX9_be_167 : decode cX9_be 167 = .ok (.iconst 0, 1) := by decide +kernel
theorem dX9_be_168 : decode cX9_be 168 = .ok (.bipush 30, 2) := by decide +kernel
theorem dX9_be_170 : decode cX9_be 170 = .ok (.invokestatic 80, 3) := by decide +kernel
theorem dX9_be_173 : decode cX9_be 173 = .ok (.aload_n 1, 1) := by decide +kernel
theorem dX9_be_174 : decode cX9_be 174 = .ok (.getfield 20, 3) := by decide +kernel
theorem dX9_be_177 : decode cX9_be 177 = .ok (.iconst 0, 1) := by decide +kernel
theorem dX9_be_178 : decode cX9_be 178 = .ok (.aload_n 0, 1) := by decide +kernel
theorem dX9_be_179 : decode cX9_be 179 = .ok (.getfield 20, 3) := by decide +kernel
theorem dX9_be_182 : decode cX9_be 182 = .ok (.iconst 0, 1) := by decide +kernel
theorem dX9_be_183 : decode cX9_be 183 = .ok (.bipush 30, 2) := by decide +kernel
theorem dX9_be_185 : decode cX9_be 185 = .ok (.invokestatic 80, 3) := by decide +kernel
theorem dX9_be_188 : decode cX9_be 188 = .ok (.aload_n 1, 1) := by decide +kernel
theorem dX9_be_189 : decode cX9_be 189 = .ok (.getfield 23, 3) := by decide +kernel
theorem dX9_be_192 : decode cX9_be 192 = .ok (.iconst 0, 1) := by decide +kernel
theorem dX9_be_193 : decode cX9_be 193 = .ok (.aload_n 0, 1) := by decide +kernel
theorem dX9_be_194 : decode cX9_be 194 = .ok (.getfield 23, 3) := by decide +kernel
theorem dX9_be_197 : decode cX9_be 197 = .ok (.iconst 0, 1) := by decide +kernel
theorem dX9_be_198 : decode cX9_be 198 = .ok (.bipush 30, 2) := by decide +kernel
theorem dX9_be_200 : decode cX9_be 200 = .ok (.invokestatic 80, 3) := by decide +kernel
theorem dX9_be_203 : decode cX9_be 203 = .ok (.aload_n 1, 1) := by decide +kernel
theorem dX9_be_204 : decode cX9_be 204 = .ok (.getfield 26, 3) := by decide +kernel
theorem dX9_be_207 : decode cX9_be 207 = .ok (.iconst 0, 1) := by decide +kernel
theorem dX9_be_208 : decode cX9_be 208 = .ok (.aload_n 0, 1) := by decide +kernel
theorem dX9_be_209 : decode cX9_be 209 = .ok (.getfield 26, 3) := by decide +kernel
theorem dX9_be_212 : decode cX9_be 212 = .ok (.iconst 0, 1) := by decide +kernel
theorem dX9_be_213 : decode cX9_be 213 = .ok (.bipush 30, 2) := by decide +kernel
theorem dX9_be_215 : decode cX9_be 215 = .ok (.invokestatic 80, 3) := by decide +kernel
theorem dX9_be_218 : decode cX9_be 218 = .ok (.return_, 1) := by decide +kernel
theorem dX9_next_0 : decode cX9_next 0 = .ok (.aload_n 0, 1) := by decide +kernel
theorem dX9_next_1 : decode cX9_next 1 = .ok (.getfield 7, 3) := by decide +kernel
theorem dX9_next_4 : decode cX9_next 4 = .ok (.ifCond .ge 10, 3) := by decide +kernel
theorem dX9_next_7 : decode cX9_next 7 = .ok (.aload_n 0, 1) := by decide +kernel
theorem dX9_next_8 : decode cX9_next 8 = .ok (.getfield 50, 3) := by decide +kernel
theorem dX9_next_11 : decode cX9_next 11 = .ok (.goto 9, 3) := by decide +kernel
theorem dX9_next_14 : decode cX9_next 14 = .ok (.aload_n 0, 1) := by decide +kernel
theorem dX9_next_15 : decode cX9_next 15 = .ok (.getfield 50, 3) := by decide +kernel
theorem dX9_next_18 : decode cX9_next 18 = .ok (.iconst 1, 1) := by decide +kernel
theorem dX9_next_19 : decode cX9_next 19 = .ok (.iadd, 1) := by decide +kernel
theorem dX9_next_20 : decode cX9_next 20 = .ok (.ireturn, 1) := by decide +kernel
theorem dX9_hasAll_0 : decode cX9_hasAll 0 = .ok (.aload_n 0, 1) := by decide +kernel
theorem dX9_hasAll_1 : decode cX9_hasAll 1 = .ok (.getfield 50, 3) := by decide +kernel
theorem dX9_hasAll_4 : decode cX9_hasAll 4 = .ok (.aload_n 0, 1) := by decide +kernel
theorem dX9_hasAll_5 : decode cX9_hasAll 5 = .ok (.getfield 32, 3) := by decide +kernel
theorem dX9_hasAll_8 : decode cX9_hasAll 8 = .ok (.if_icmp .ne 7, 3) := by decide +kernel
theorem dX9_hasAll_11 : decode cX9_hasAll 11 = .ok (.iconst 1, 1) := by decide +kernel
theorem dX9_hasAll_12 : decode cX9_hasAll 12 = .ok (.goto 4, 3) := by decide +kernel
theorem dX9_hasAll_15 : decode cX9_hasAll 15 = .ok (.iconst 0, 1) := by decide +kernel
theorem dX9_hasAll_16 : decode cX9_hasAll 16 = .ok (.ireturn, 1) := by decide +kernel
theorem dX9_hasNone_0 : decode cX9_hasNone 0 = .ok (.aload_n 0, 1) := by decide +kernel
theorem dX9_hasNone_1 : decode cX9_hasNone 1 = .ok (.getfield 44, 3) := by decide +kernel
theorem dX9_hasNone_4 : decode cX9_hasNone 4 = .ok (.iconst 4, 1) := by decide +kernel
theorem dX9_hasNone_5 : decode cX9_hasNone 5 = .ok (.if_icmp .eq 14, 3) := by decide +kernel
theorem dX9_hasNone_8 : decode cX9_hasNone 8 = .ok (.aload_n 0, 1) := by decide +kernel
theorem dX9_hasNone_9 : decode cX9_hasNone 9 = .ok (.invokevirtual 86, 3) := by decide +kernel
theorem dX9_hasNone_12 : decode cX9_hasNone 12 = .ok (.aload_n 0, 1) := by decide +kernel
theorem dX9_hasNone_13 : decode cX9_hasNone 13 = .ok (.getfield 32, 3) := by decide +kernel
theorem dX9_hasNone_16 : decode cX9_hasNone 16 = .ok (.if_icmp .ne 7, 3) := by decide +kernel
theorem dX9_hasNone_19 : decode cX9_hasNone 19 = .ok (.iconst 1, 1) := by decide +kernel
theorem dX9_hasNone_20 : decode cX9_hasNone 20 = .ok (.goto 4, 3) := by decide +kernel
theorem dX9_hasNone_23 : decode cX9_hasNone 23 = .ok (.iconst 0, 1) := by decide +kernel
theorem dX9_hasNone_24 : decode cX9_hasNone 24 = .ok (.ireturn, 1) := by decide +kernel
theorem dL_feeds_0 : decode cL_feeds 0 = .ok (.iconst 0, 1) := by decide +kernel
theorem dL_feeds_1 : decode cL_feeds 1 = .ok (.istore_n 2, 1) := by decide +kernel
theorem dL_feeds_2 : decode cL_feeds 2 = .ok (.iconst 0, 1) := by decide +kernel
theorem dL_feeds_3 : decode cL_feeds 3 = .ok (.istore_n 3, 1) := by decide +kernel
theorem dL_feeds_4 : decode cL_feeds 4 = .ok (.iload_n 3, 1) := by decide +kernel
theorem dL_feeds_5 : decode cL_feeds 5 = .ok (.aload_n 1, 1) := by decide +kernel
theorem dL_feeds_6 : decode cL_feeds 6 = .ok (.invokevirtual 7, 3) := by decide +kernel
theorem dL_feeds_9 : decode cL_feeds 9 = .ok (.if_icmp .ge 105, 3) := by decide +kernel
theorem dL_feeds_12 : decode cL_feeds 12 = .ok (.iconst 5, 1) := by decide +kernel
theorem dL_feeds_13 : decode cL_feeds 13 = .ok (.newarray .int, 2) := by decide +kernel
theorem dL_feeds_15 : decode cL_feeds 15 = .ok (.astore 4, 2) := by decide +kernel
theorem dL_feeds_17 : decode cL_feeds 17 = .ok (.iconst 0, 1) := by decide +kernel
theorem dL_feeds_18 : decode cL_feeds 18 = .ok (.istore 5, 2) := by decide +kernel
theorem dL_feeds_20 : decode cL_feeds 20 = .ok (.iload 5, 2) := by decide +kernel
theorem dL_feeds_22 : decode cL_feeds 22 = .ok (.bipush 20, 2) := by decide +kernel
theorem dL_feeds_24 : decode cL_feeds 24 = .ok (.if_icmp .ge 51, 3) := by decide +kernel
theorem dL_feeds_27 : decode cL_feeds 27 = .ok (.aload 4, 2) := by decide +kernel
theorem dL_feeds_29 : decode cL_feeds 29 = .ok (.iload 5, 2) := by decide +kernel
theorem dL_feeds_31 : decode cL_feeds 31 = .ok (.iconst 4, 1) := by decide +kernel
theorem dL_feeds_32 : decode cL_feeds 32 = .ok (.idiv, 1) := by decide +kernel
theorem dL_feeds_33 : decode cL_feeds 33 = .ok (.aload 4, 2) := by decide +kernel
theorem dL_feeds_35 : decode cL_feeds 35 = .ok (.iload 5, 2) := by decide +kernel
theorem dL_feeds_37 : decode cL_feeds 37 = .ok (.iconst 4, 1) := by decide +kernel
theorem dL_feeds_38 : decode cL_feeds 38 = .ok (.idiv, 1) := by decide +kernel
theorem dL_feeds_39 : decode cL_feeds 39 = .ok (.iaload, 1) := by decide +kernel
theorem dL_feeds_40 : decode cL_feeds 40 = .ok (.bipush 8, 2) := by decide +kernel
theorem dL_feeds_42 : decode cL_feeds 42 = .ok (.ishl, 1) := by decide +kernel
theorem dL_feeds_43 : decode cL_feeds 43 = .ok (.iload_n 3, 1) := by decide +kernel
theorem dL_feeds_44 : decode cL_feeds 44 = .ok (.iload 5, 2) := by decide +kernel
theorem dL_feeds_46 : decode cL_feeds 46 = .ok (.iadd, 1) := by decide +kernel
theorem dL_feeds_47 : decode cL_feeds 47 = .ok (.aload_n 1, 1) := by decide +kernel
theorem dL_feeds_48 : decode cL_feeds 48 = .ok (.invokevirtual 7, 3) := by decide +kernel
theorem dL_feeds_51 : decode cL_feeds 51 = .ok (.if_icmp .ge 14, 3) := by decide +kernel
theorem dL_feeds_54 : decode cL_feeds 54 = .ok (.aload_n 1, 1) := by decide +kernel
theorem dL_feeds_55 : decode cL_feeds 55 = .ok (.iload_n 3, 1) := by decide +kernel
theorem dL_feeds_56 : decode cL_feeds 56 = .ok (.iload 5, 2) := by decide +kernel
theorem dL_feeds_58 : decode cL_feeds 58 = .ok (.iadd, 1) := by decide +kernel
theorem dL_feeds_59 : decode cL_feeds 59 = .ok (.invokevirtual 13, 3) := by decide +kernel
theorem dL_feeds_62 : decode cL_feeds 62 = .ok (.goto 5, 3) := by decide +kernel
theorem dL_feeds_65 : decode cL_feeds 65 = .ok (.bipush 32, 2) := by decide +kernel
theorem dL_feeds_67 : decode cL_feeds 67 = .ok (.ior, 1) := by decide +kernel
theorem dL_feeds_68 : decode cL_feeds 68 = .ok (.iastore, 1) := by decide +kernel
theorem dL_feeds_69 : decode cL_feeds 69 = .ok (.iinc 5 1, 3) := by decide +kernel
theorem dL_feeds_72 : decode cL_feeds 72 = .ok (.goto (-52), 3) := by decide +kernel
theorem dL_feeds_75 : decode cL_feeds 75 = .ok (.iinc 2 20, 3) := by decide +kernel
theorem dL_feeds_78 : decode cL_feeds 78 = .ok (.aload_n 0, 1) := by decide +kernel
theorem dL_feeds_79 : decode cL_feeds 79 = .ok (.aload 4, 2) := by decide +kernel
theorem dL_feeds_81 : decode cL_feeds 81 = .ok (.iconst 0, 1) := by decide +kernel
theorem dL_feeds_82 : decode cL_feeds 82 = .ok (.iaload, 1) := by decide +kernel
theorem dL_feeds_83 : decode cL_feeds 83 = .ok (.aload 4, 2) := by decide +kernel
theorem dL_feeds_85 : decode cL_feeds 85 = .ok (.iconst 1, 1) := by decide +kernel
theorem dL_feeds_86 : decode cL_feeds 86 = .ok (.iaload, 1) := by decide +kernel
theorem dL_feeds_87 : decode cL_feeds 87 = .ok (.aload 4, 2) := by decide +kernel
theorem dL_feeds_89 : decode cL_feeds 89 = .ok (.iconst 2, 1) := by decide +kernel
theorem dL_feeds_90 : decode cL_feeds 90 = .ok (.iaload, 1) := by decide +kernel
theorem dL_feeds_91 : decode cL_feeds 91 = .ok (.aload 4, 2) := by decide +kernel
theorem dL_feeds_93 : decode cL_feeds 93 = .ok (.iconst 3, 1) := by decide +kernel
theorem dL_feeds_94 : decode cL_feeds 94 = .ok (.iaload, 1) := by decide +kernel
theorem dL_feeds_95 : decode cL_feeds 95 = .ok (.aload 4, 2) := by decide +kernel
theorem dL_feeds_97 : decode cL_feeds 97 = .ok (.iconst 4, 1) := by decide +kernel
theorem dL_feeds_98 : decode cL_feeds 98 = .ok (.iaload, 1) := by decide +kernel
theorem dL_feeds_99 : decode cL_feeds 99 = .ok (.invokevirtual 17, 3) := by decide +kernel
theorem dL_feeds_102 : decode cL_feeds 102 = .ok (.iload_n 2, 1) := by decide +kernel
theorem dL_feeds_103 : decode cL_feeds 103 = .ok (.if_icmp .eq 5, 3) := by decide +kernel
theorem dL_feeds_106 : decode cL_feeds 106 = .ok (.iconst 0, 1) := by decide +kernel
theorem dL_feeds_107 : decode cL_feeds 107 = .ok (.ireturn, 1) := by decide +kernel
theorem dL_feeds_108 : decode cL_feeds 108 = .ok (.iinc 3 20, 3) := by decide +kernel
theorem dL_feeds_111 : decode cL_feeds 111 = .ok (.goto (-107), 3) := by decide +kernel
theorem dL_feeds_114 : decode cL_feeds 114 = .ok (.iconst 1, 1) := by decide +kernel
theorem dL_feeds_115 : decode cL_feeds 115 = .ok (.ireturn, 1) := by decide +kernel
theorem dL_draw_0 : decode cL_draw 0 = .ok (.aload_n 0, 1) := by decide +kernel
theorem dL_draw_1 : decode cL_draw 1 = .ok (.iconst 0, 1) := by decide +kernel
theorem dL_draw_2 : decode cL_draw 2 = .ok (.aload_n 0, 1) := by decide +kernel
theorem dL_draw_3 : decode cL_draw 3 = .ok (.iconst 0, 1) := by decide +kernel
theorem dL_draw_4 : decode cL_draw 4 = .ok (.iaload, 1) := by decide +kernel
theorem dL_draw_5 : decode cL_draw 5 = .ok (.ldc 23, 2) := by decide +kernel
theorem dL_draw_7 : decode cL_draw 7 = .ok (.imul, 1) := by decide +kernel
theorem dL_draw_8 : decode cL_draw 8 = .ok (.ldc 24, 2) := by decide +kernel
theorem dL_draw_10 : decode cL_draw 10 = .ok (.iadd, 1) := by decide +kernel
theorem dL_draw_11 : decode cL_draw 11 = .ok (.iastore, 1) := by decide +kernel
theorem dL_draw_12 : decode cL_draw 12 = .ok (.aload_n 0, 1) := by decide +kernel
theorem dL_draw_13 : decode cL_draw 13 = .ok (.iconst 0, 1) := by decide +kernel
theorem dL_draw_14 : decode cL_draw 14 = .ok (.iaload, 1) := by decide +kernel
theorem dL_draw_15 : decode cL_draw 15 = .ok (.bipush 8, 2) := by decide +kernel
theorem dL_draw_17 : decode cL_draw 17 = .ok (.iushr, 1) := by decide +kernel
theorem dL_draw_18 : decode cL_draw 18 = .ok (.iload_n 1, 1) := by decide +kernel
theorem dL_draw_19 : decode cL_draw 19 = .ok (.irem, 1) := by decide +kernel
theorem dL_draw_20 : decode cL_draw 20 = .ok (.ireturn, 1) := by decide +kernel
theorem dL_law_0 : decode cL_law 0 = .ok (.new 18, 3) := by decide +kernel
theorem dL_law_3 : decode cL_law 3 = .ok (.dup, 1) := by decide +kernel
theorem dL_law_4 : decode cL_law 4 = .ok (.invokespecial 25, 3) := by decide +kernel
theorem dL_law_7 : decode cL_law 7 = .ok (.astore_n 1, 1) := by decide +kernel
theorem dL_law_8 : decode cL_law 8 = .ok (.aload_n 0, 1) := by decide +kernel
theorem dL_law_9 : decode cL_law 9 = .ok (.arraylength, 1) := by decide +kernel
theorem dL_law_10 : decode cL_law 10 = .ok (.istore_n 2, 1) := by decide +kernel
theorem dL_law_11 : decode cL_law 11 = .ok (.iconst 0, 1) := by decide +kernel
theorem dL_law_12 : decode cL_law 12 = .ok (.istore_n 3, 1) := by decide +kernel
theorem dL_law_13 : decode cL_law 13 = .ok (.iload_n 3, 1) := by decide +kernel
theorem dL_law_14 : decode cL_law 14 = .ok (.iload_n 2, 1) := by decide +kernel
theorem dL_law_15 : decode cL_law 15 = .ok (.if_icmp .ge 32, 3) := by decide +kernel
theorem dL_law_18 : decode cL_law 18 = .ok (.iload_n 3, 1) := by decide +kernel
theorem dL_law_19 : decode cL_law 19 = .ok (.iconst 3, 1) := by decide +kernel
theorem dL_law_20 : decode cL_law 20 = .ok (.if_icmp .ge 27, 3) := by decide +kernel
theorem dL_law_23 : decode cL_law 23 = .ok (.aload_n 1, 1) := by decide +kernel
theorem dL_law_24 : decode cL_law 24 = .ok (.iconst 1, 1) := by decide +kernel
theorem dL_law_25 : decode cL_law 25 = .ok (.newarray .int, 2) := by decide +kernel
theorem dL_law_27 : decode cL_law 27 = .ok (.dup, 1) := by decide +kernel
theorem dL_law_28 : decode cL_law 28 = .ok (.iconst 0, 1) := by decide +kernel
theorem dL_law_29 : decode cL_law 29 = .ok (.aload_n 0, 1) := by decide +kernel
theorem dL_law_30 : decode cL_law 30 = .ok (.iload_n 3, 1) := by decide +kernel
theorem dL_law_31 : decode cL_law 31 = .ok (.iaload, 1) := by decide +kernel
theorem dL_law_32 : decode cL_law 32 = .ok (.iastore, 1) := by decide +kernel
theorem dL_law_33 : decode cL_law 33 = .ok (.invokestatic 26, 3) := by decide +kernel
theorem dL_law_36 : decode cL_law 36 = .ok (.ifCond .ne 5, 3) := by decide +kernel
theorem dL_law_39 : decode cL_law 39 = .ok (.iconst 0, 1) := by decide +kernel
theorem dL_law_40 : decode cL_law 40 = .ok (.ireturn, 1) := by decide +kernel
theorem dL_law_41 : decode cL_law 41 = .ok (.iinc 3 1, 3) := by decide +kernel
theorem dL_law_44 : decode cL_law 44 = .ok (.goto (-31), 3) := by decide +kernel
theorem dL_law_47 : decode cL_law 47 = .ok (.iconst 1, 1) := by decide +kernel
theorem dL_law_48 : decode cL_law 48 = .ok (.ireturn, 1) := by decide +kernel
theorem dL_net_0 : decode cL_net 0 = .ok (.new 32, 3) := by decide +kernel
theorem dL_net_3 : decode cL_net 3 = .ok (.dup, 1) := by decide +kernel
theorem dL_net_4 : decode cL_net 4 = .ok (.invokespecial 34, 3) := by decide +kernel
theorem dL_net_7 : decode cL_net 7 = .ok (.astore_n 2, 1) := by decide +kernel
theorem dL_net_8 : decode cL_net 8 = .ok (.aload_n 2, 1) := by decide +kernel
theorem dL_net_9 : decode cL_net 9 = .ok (.iconst 1, 1) := by decide +kernel
theorem dL_net_10 : decode cL_net 10 = .ok (.aload_n 1, 1) := by decide +kernel
theorem dL_net_11 : decode cL_net 11 = .ok (.bipush 6, 2) := by decide +kernel
theorem dL_net_13 : decode cL_net 13 = .ok (.invokestatic 35, 3) := by decide +kernel
theorem dL_net_16 : decode cL_net 16 = .ok (.iadd, 1) := by decide +kernel
theorem dL_net_17 : decode cL_net 17 = .ok (.putfield 39, 3) := by decide +kernel
theorem dL_net_20 : decode cL_net 20 = .ok (.aload_n 2, 1) := by decide +kernel
theorem dL_net_21 : decode cL_net 21 = .ok (.iconst 1, 1) := by decide +kernel
theorem dL_net_22 : decode cL_net 22 = .ok (.aload_n 1, 1) := by decide +kernel
theorem dL_net_23 : decode cL_net 23 = .ok (.bipush 12, 2) := by decide +kernel
theorem dL_net_25 : decode cL_net 25 = .ok (.invokestatic 35, 3) := by decide +kernel
theorem dL_net_28 : decode cL_net 28 = .ok (.iadd, 1) := by decide +kernel
theorem dL_net_29 : decode cL_net 29 = .ok (.putfield 42, 3) := by decide +kernel
theorem dL_net_32 : decode cL_net 32 = .ok (.aload_n 2, 1) := by decide +kernel
theorem dL_net_33 : decode cL_net 33 = .ok (.iconst 1, 1) := by decide +kernel
theorem dL_net_34 : decode cL_net 34 = .ok (.aload_n 1, 1) := by decide +kernel
theorem dL_net_35 : decode cL_net 35 = .ok (.bipush 30, 2) := by decide +kernel
theorem dL_net_37 : decode cL_net 37 = .ok (.invokestatic 35, 3) := by decide +kernel
theorem dL_net_40 : decode cL_net 40 = .ok (.iadd, 1) := by decide +kernel
theorem dL_net_41 : decode cL_net 41 = .ok (.putfield 45, 3) := by decide +kernel
theorem dL_net_44 : decode cL_net 44 = .ok (.aload_n 2, 1) := by decide +kernel
theorem dL_net_45 : decode cL_net 45 = .ok (.bipush 10, 2) := by decide +kernel
theorem dL_net_47 : decode cL_net 47 = .ok (.aload_n 1, 1) := by decide +kernel
theorem dL_net_48 : decode cL_net 48 = .ok (.bipush 91, 2) := by decide +kernel
theorem dL_net_50 : decode cL_net 50 = .ok (.invokestatic 35, 3) := by decide +kernel
theorem dL_net_53 : decode cL_net 53 = .ok (.iadd, 1) := by decide +kernel
theorem dL_net_54 : decode cL_net 54 = .ok (.putfield 48, 3) := by decide +kernel
theorem dL_net_57 : decode cL_net 57 = .ok (.aload_n 0, 1) := by decide +kernel
theorem dL_net_58 : decode cL_net 58 = .ok (.ldc 51, 2) := by decide +kernel
theorem dL_net_60 : decode cL_net 60 = .ok (.invokevirtual 53, 3) := by decide +kernel
theorem dL_net_63 : decode cL_net 63 = .ok (.aload_n 2, 1) := by decide +kernel
theorem dL_net_64 : decode cL_net 64 = .ok (.getfield 39, 3) := by decide +kernel
theorem dL_net_67 : decode cL_net 67 = .ok (.invokevirtual 58, 3) := by decide +kernel
theorem dL_net_70 : decode cL_net 70 = .ok (.bipush 32, 2) := by decide +kernel
theorem dL_net_72 : decode cL_net 72 = .ok (.invokevirtual 61, 3) := by decide +kernel
theorem dL_net_75 : decode cL_net 75 = .ok (.aload_n 2, 1) := by decide +kernel
theorem dL_net_76 : decode cL_net 76 = .ok (.getfield 42, 3) := by decide +kernel
theorem dL_net_79 : decode cL_net 79 = .ok (.invokevirtual 58, 3) := by decide +kernel
theorem dL_net_82 : decode cL_net 82 = .ok (.bipush 32, 2) := by decide +kernel
theorem dL_net_84 : decode cL_net 84 = .ok (.invokevirtual 61, 3) := by decide +kernel
theorem dL_net_87 : decode cL_net 87 = .ok (.aload_n 2, 1) := by decide +kernel
theorem dL_net_88 : decode cL_net 88 = .ok (.getfield 45, 3) := by decide +kernel
theorem dL_net_91 : decode cL_net 91 = .ok (.invokevirtual 58, 3) := by decide +kernel
theorem dL_net_94 : decode cL_net 94 = .ok (.bipush 32, 2) := by decide +kernel
theorem dL_net_96 : decode cL_net 96 = .ok (.invokevirtual 61, 3) := by decide +kernel
theorem dL_net_99 : decode cL_net 99 = .ok (.aload_n 2, 1) := by decide +kernel
theorem dL_net_100 : decode cL_net 100 = .ok (.getfield 48, 3) := by decide +kernel
theorem dL_net_103 : decode cL_net 103 = .ok (.invokevirtual 58, 3) := by decide +kernel
theorem dL_net_106 : decode cL_net 106 = .ok (.bipush 59, 2) := by decide +kernel
theorem dL_net_108 : decode cL_net 108 = .ok (.invokevirtual 61, 3) := by decide +kernel
theorem dL_net_111 : decode cL_net 111 = .ok (.pop, 1) := by decide +kernel
theorem dL_net_112 : decode cL_net 112 = .ok (.aload_n 2, 1) := by decide +kernel
theorem dL_net_113 : decode cL_net 113 = .ok (.aload_n 1, 1) := by decide +kernel
theorem dL_net_114 : decode cL_net 114 = .ok (.iconst 4, 1) := by decide +kernel
theorem dL_net_115 : decode cL_net 115 = .ok (.invokestatic 35, 3) := by decide +kernel
theorem dL_net_118 : decode cL_net 118 = .ok (.putfield 64, 3) := by decide +kernel
theorem dL_net_121 : decode cL_net 121 = .ok (.iconst 0, 1) := by decide +kernel
theorem dL_net_122 : decode cL_net 122 = .ok (.istore_n 3, 1) := by decide +kernel
theorem dL_net_123 : decode cL_net 123 = .ok (.iload_n 3, 1) := by decide +kernel
theorem dL_net_124 : decode cL_net 124 = .ok (.aload_n 2, 1) := by decide +kernel
theorem dL_net_125 : decode cL_net 125 = .ok (.getfield 64, 3) := by decide +kernel
theorem dL_net_128 : decode cL_net 128 = .ok (.if_icmp .ge 84, 3) := by decide +kernel
theorem dL_net_131 : decode cL_net 131 = .ok (.aload_n 2, 1) := by decide +kernel
theorem dL_net_132 : decode cL_net 132 = .ok (.getfield 67, 3) := by decide +kernel
theorem dL_net_135 : decode cL_net 135 = .ok (.iload_n 3, 1) := by decide +kernel
theorem dL_net_136 : decode cL_net 136 = .ok (.iconst 1, 1) := by decide +kernel
theorem dL_net_137 : decode cL_net 137 = .ok (.aload_n 1, 1) := by decide +kernel
theorem dL_net_138 : decode cL_net 138 = .ok (.bipush 20, 2) := by decide +kernel
theorem dL_net_140 : decode cL_net 140 = .ok (.invokestatic 35, 3) := by decide +kernel
theorem dL_net_143 : decode cL_net 143 = .ok (.iadd, 1) := by decide +kernel
theorem dL_net_144 : decode cL_net 144 = .ok (.iastore, 1) := by decide +kernel
theorem dL_net_145 : decode cL_net 145 = .ok (.aload_n 2, 1) := by decide +kernel
theorem dL_net_146 : decode cL_net 146 = .ok (.getfield 71, 3) := by decide +kernel
theorem dL_net_149 : decode cL_net 149 = .ok (.iload_n 3, 1) := by decide +kernel
theorem dL_net_150 : decode cL_net 150 = .ok (.aload_n 1, 1) := by decide +kernel
theorem dL_net_151 : decode cL_net 151 = .ok (.aload_n 1, 1) := by decide +kernel
theorem dL_net_152 : decode cL_net 152 = .ok (.iconst 2, 1) := by decide +kernel
theorem dL_net_153 : decode cL_net 153 = .ok (.invokestatic 35, 3) := by decide +kernel
theorem dL_net_156 : decode cL_net 156 = .ok (.ifCond .ne 9, 3) := by decide +kernel
theorem dL_net_159 : decode cL_net 159 = .ok (.sipush 200, 3) := by decide +kernel
theorem dL_net_162 : decode cL_net 162 = .ok (.goto 5, 3) := by decide +kernel
theorem dL_net_165 : decode cL_net 165 = .ok (.bipush 30, 2) := by decide +kernel
theorem dL_net_167 : decode cL_net 167 = .ok (.invokestatic 35, 3) := by decide +kernel
theorem dL_net_170 : decode cL_net 170 = .ok (.iastore, 1) := by decide +kernel
theorem dL_net_171 : decode cL_net 171 = .ok (.aload_n 0, 1) := by decide +kernel
theorem dL_net_172 : decode cL_net 172 = .ok (.ldc 74, 2) := by decide +kernel
theorem dL_net_174 : decode cL_net 174 = .ok (.invokevirtual 53, 3) := by decide +kernel
theorem dL_net_177 : decode cL_net 177 = .ok (.aload_n 2, 1) := by decide +kernel
theorem dL_net_178 : decode cL_net 178 = .ok (.getfield 67, 3) := by decide +kernel
theorem dL_net_181 : decode cL_net 181 = .ok (.iload_n 3, 1) := by decide +kernel
theorem dL_net_182 : decode cL_net 182 = .ok (.iaload, 1) := by decide +kernel
theorem dL_net_183 : decode cL_net 183 = .ok (.invokevirtual 58, 3) := by decide +kernel
theorem dL_net_186 : decode cL_net 186 = .ok (.bipush 32, 2) := by decide +kernel
theorem dL_net_188 : decode cL_net 188 = .ok (.invokevirtual 61, 3) := by decide +kernel
theorem dL_net_191 : decode cL_net 191 = .ok (.aload_n 2, 1) := by decide +kernel
theorem dL_net_192 : decode cL_net 192 = .ok (.getfield 71, 3) := by decide +kernel
theorem dL_net_195 : decode cL_net 195 = .ok (.iload_n 3, 1) := by decide +kernel
theorem dL_net_196 : decode cL_net 196 = .ok (.iaload, 1) := by decide +kernel
theorem dL_net_197 : decode cL_net 197 = .ok (.invokevirtual 58, 3) := by decide +kernel
theorem dL_net_200 : decode cL_net 200 = .ok (.bipush 59, 2) := by decide +kernel
theorem dL_net_202 : decode cL_net 202 = .ok (.invokevirtual 61, 3) := by decide +kernel
theorem dL_net_205 : decode cL_net 205 = .ok (.pop, 1) := by decide +kernel
theorem dL_net_206 : decode cL_net 206 = .ok (.iinc 3 1, 3) := by decide +kernel
theorem dL_net_209 : decode cL_net 209 = .ok (.goto (-86), 3) := by decide +kernel
theorem dL_net_212 : decode cL_net 212 = .ok (.aload_n 2, 1) := by decide +kernel
theorem dL_net_213 : decode cL_net 213 = .ok (.aload_n 1, 1) := by decide +kernel
theorem dL_net_214 : decode cL_net 214 = .ok (.iconst 4, 1) := by decide +kernel
theorem dL_net_215 : decode cL_net 215 = .ok (.invokestatic 35, 3) := by decide +kernel
theorem dL_net_218 : decode cL_net 218 = .ok (.putfield 76, 3) := by decide +kernel
theorem dL_net_221 : decode cL_net 221 = .ok (.aload_n 2, 1) := by decide +kernel
theorem dL_net_222 : decode cL_net 222 = .ok (.getfield 76, 3) := by decide +kernel
theorem dL_net_225 : decode cL_net 225 = .ok (.ifCond .le 10, 3) := by decide +kernel
theorem dL_net_228 : decode cL_net 228 = .ok (.aload_n 0, 1) := by decide +kernel
theorem dL_net_229 : decode cL_net 229 = .ok (.ldc 79, 2) := by decide +kernel
theorem dL_net_231 : decode cL_net 231 = .ok (.invokevirtual 53, 3) := by decide +kernel
theorem dL_net_234 : decode cL_net 234 = .ok (.pop, 1) := by decide +kernel
theorem dL_net_235 : decode cL_net 235 = .ok (.iconst 0, 1) := by decide +kernel
theorem dL_net_236 : decode cL_net 236 = .ok (.istore_n 3, 1) := by decide +kernel
theorem dL_net_237 : decode cL_net 237 = .ok (.iload_n 3, 1) := by decide +kernel
theorem dL_net_238 : decode cL_net 238 = .ok (.aload_n 2, 1) := by decide +kernel
theorem dL_net_239 : decode cL_net 239 = .ok (.getfield 76, 3) := by decide +kernel
theorem dL_net_242 : decode cL_net 242 = .ok (.if_icmp .ge 41, 3) := by decide +kernel
theorem dL_net_245 : decode cL_net 245 = .ok (.aload_n 2, 1) := by decide +kernel
theorem dL_net_246 : decode cL_net 246 = .ok (.getfield 81, 3) := by decide +kernel
theorem dL_net_249 : decode cL_net 249 = .ok (.iload_n 3, 1) := by decide +kernel
theorem dL_net_250 : decode cL_net 250 = .ok (.bipush 50, 2) := by decide +kernel
theorem dL_net_252 : decode cL_net 252 = .ok (.aload_n 1, 1) := by decide +kernel
theorem dL_net_253 : decode cL_net 253 = .ok (.sipush 151, 3) := by decide +kernel
theorem dL_net_256 : decode cL_net 256 = .ok (.invokestatic 35, 3) := by decide +kernel
theorem dL_net_259 : decode cL_net 259 = .ok (.iadd, 1) := by decide +kernel
theorem dL_net_260 : decode cL_net 260 = .ok (.iastore, 1) := by decide +kernel
theorem dL_net_261 : decode cL_net 261 = .ok (.aload_n 0, 1) := by decide +kernel
theorem dL_net_262 : decode cL_net 262 = .ok (.bipush 32, 2) := by decide +kernel
theorem dL_net_264 : decode cL_net 264 = .ok (.invokevirtual 61, 3) := by decide +kernel
theorem dL_net_267 : decode cL_net 267 = .ok (.aload_n 2, 1) := by decide +kernel
theorem dL_net_268 : decode cL_net 268 = .ok (.getfield 81, 3) := by decide +kernel
theorem dL_net_271 : decode cL_net 271 = .ok (.iload_n 3, 1) := by decide +kernel
theorem dL_net_272 : decode cL_net 272 = .ok (.iaload, 1) := by decide +kernel
theorem dL_net_273 : decode cL_net 273 = .ok (.invokevirtual 58, 3) := by decide +kernel
theorem dL_net_276 : decode cL_net 276 = .ok (.pop, 1) := by decide +kernel
theorem dL_net_277 : decode cL_net 277 = .ok (.iinc 3 1, 3) := by decide +kernel
theorem dL_net_280 : decode cL_net 280 = .ok (.goto (-43), 3) := by decide +kernel
theorem dL_net_283 : decode cL_net 283 = .ok (.aload_n 2, 1) := by decide +kernel
theorem dL_net_284 : decode cL_net 284 = .ok (.getfield 76, 3) := by decide +kernel
theorem dL_net_287 : decode cL_net 287 = .ok (.ifCond .le 10, 3) := by decide +kernel
theorem dL_net_290 : decode cL_net 290 = .ok (.aload_n 0, 1) := by decide +kernel
theorem dL_net_291 : decode cL_net 291 = .ok (.bipush 59, 2) := by decide +kernel
theorem dL_net_293 : decode cL_net 293 = .ok (.invokevirtual 61, 3) := by decide +kernel
theorem dL_net_296 : decode cL_net 296 = .ok (.pop, 1) := by decide +kernel
theorem dL_net_297 : decode cL_net 297 = .ok (.aload_n 2, 1) := by decide +kernel
theorem dL_net_298 : decode cL_net 298 = .ok (.iconst 1, 1) := by decide +kernel
theorem dL_net_299 : decode cL_net 299 = .ok (.aload_n 1, 1) := by decide +kernel
theorem dL_net_300 : decode cL_net 300 = .ok (.iconst 3, 1) := by decide +kernel
theorem dL_net_301 : decode cL_net 301 = .ok (.invokestatic 35, 3) := by decide +kernel
theorem dL_net_304 : decode cL_net 304 = .ok (.iadd, 1) := by decide +kernel
theorem dL_net_305 : decode cL_net 305 = .ok (.putfield 84, 3) := by decide +kernel
theorem dL_net_308 : decode cL_net 308 = .ok (.iconst 0, 1) := by decide +kernel
theorem dL_net_309 : decode cL_net 309 = .ok (.istore_n 3, 1) := by decide +kernel
theorem dL_net_310 : decode cL_net 310 = .ok (.iload_n 3, 1) := by decide +kernel
theorem dL_net_311 : decode cL_net 311 = .ok (.aload_n 2, 1) := by decide +kernel
theorem dL_net_312 : decode cL_net 312 = .ok (.getfield 84, 3) := by decide +kernel
theorem dL_net_315 : decode cL_net 315 = .ok (.if_icmp .ge 268, 3) := by decide +kernel
theorem dL_net_318 : decode cL_net 318 = .ok (.aload_n 2, 1) := by decide +kernel
theorem dL_net_319 : decode cL_net 319 = .ok (.getfield 87, 3) := by decide +kernel
theorem dL_net_322 : decode cL_net 322 = .ok (.iload_n 3, 1) := by decide +kernel
theorem dL_net_323 : decode cL_net 323 = .ok (.aaload, 1) := by decide +kernel
theorem dL_net_324 : decode cL_net 324 = .ok (.astore 4, 2) := by decide +kernel
theorem dL_net_326 : decode cL_net 326 = .ok (.aload 4, 2) := by decide +kernel
theorem dL_net_328 : decode cL_net 328 = .ok (.aload_n 1, 1) := by decide +kernel
theorem dL_net_329 : decode cL_net 329 = .ok (.iconst 4, 1) := by decide +kernel
theorem dL_net_330 : decode cL_net 330 = .ok (.invokestatic 35, 3) := by decide +kernel
theorem dL_net_333 : decode cL_net 333 = .ok (.putfield 91, 3) := by decide +kernel
theorem dL_net_336 : decode cL_net 336 = .ok (.aload 4, 2) := by decide +kernel
theorem dL_net_338 : decode cL_net 338 = .ok (.iconst 1, 1) := by decide +kernel
theorem dL_net_339 : decode cL_net 339 = .ok (.aload_n 1, 1) := by decide +kernel
theorem dL_net_340 : decode cL_net 340 = .ok (.bipush 7, 2) := by decide +kernel
theorem dL_net_342 : decode cL_net 342 = .ok (.invokestatic 35, 3) := by decide +kernel
theorem dL_net_345 : decode cL_net 345 = .ok (.iadd, 1) := by decide +kernel
theorem dL_net_346 : decode cL_net 346 = .ok (.putfield 96, 3) := by decide +kernel
theorem dL_net_349 : decode cL_net 349 = .ok (.aload 4, 2) := by decide +kernel
theorem dL_net_351 : decode cL_net 351 = .ok (.iconst 1, 1) := by decide +kernel
theorem dL_net_352 : decode cL_net 352 = .ok (.aload_n 1, 1) := by decide +kernel
theorem dL_net_353 : decode cL_net 353 = .ok (.bipush 9, 2) := by decide +kernel
theorem dL_net_355 : decode cL_net 355 = .ok (.invokestatic 35, 3) := by decide +kernel
theorem dL_net_358 : decode cL_net 358 = .ok (.iadd, 1) := by decide +kernel
theorem dL_net_359 : decode cL_net 359 = .ok (.putfield 99, 3) := by decide +kernel
theorem dL_net_362 : decode cL_net 362 = .ok (.aload 4, 2) := by decide +kernel
theorem dL_net_364 : decode cL_net 364 = .ok (.iconst 1, 1) := by decide +kernel
theorem dL_net_365 : decode cL_net 365 = .ok (.aload_n 1, 1) := by decide +kernel
theorem dL_net_366 : decode cL_net 366 = .ok (.iconst 4, 1) := by decide +kernel
theorem dL_net_367 : decode cL_net 367 = .ok (.invokestatic 35, 3) := by decide +kernel
theorem dL_net_370 : decode cL_net 370 = .ok (.iadd, 1) := by decide +kernel
theorem dL_net_371 : decode cL_net 371 = .ok (.putfield 102, 3) := by decide +kernel
theorem dL_net_374 : decode cL_net 374 = .ok (.iconst 4, 1) := by decide +kernel
theorem dL_net_375 : decode cL_net 375 = .ok (.anewarray 8, 3) := by decide +kernel
theorem dL_net_378 : decode cL_net 378 = .ok (.dup, 1) := by decide +kernel
theorem dL_net_379 : decode cL_net 379 = .ok (.iconst 0, 1) := by decide +kernel
theorem dL_net_380 : decode cL_net 380 = .ok (.ldc 105, 2) := by decide +kernel
theorem dL_net_382 : decode cL_net 382 = .ok (.aastore, 1) := by decide +kernel
theorem dL_net_383 : decode cL_net 383 = .ok (.dup, 1) := by decide +kernel
theorem dL_net_384 : decode cL_net 384 = .ok (.iconst 1, 1) := by decide +kernel
theorem dL_net_385 : decode cL_net 385 = .ok (.ldc 107, 2) := by decide +kernel
theorem dL_net_387 : decode cL_net 387 = .ok (.aastore, 1) := by decide +kernel
theorem dL_net_388 : decode cL_net 388 = .ok (.dup, 1) := by decide +kernel
theorem dL_net_389 : decode cL_net 389 = .ok (.iconst 2, 1) := by decide +kernel
theorem dL_net_390 : decode cL_net 390 = .ok (.ldc 109, 2) := by decide +kernel
theorem dL_net_392 : decode cL_net 392 = .ok (.aastore, 1) := by decide +kernel
theorem dL_net_393 : decode cL_net 393 = .ok (.dup, 1) := by decide +kernel
theorem dL_net_394 : decode cL_net 394 = .ok (.iconst 3, 1) := by decide +kernel
theorem dL_net_395 : decode cL_net 395 = .ok (.ldc 110, 2) := by decide +kernel
theorem dL_net_397 : decode cL_net 397 = .ok (.aastore, 1) := by decide +kernel
theorem dL_net_398 : decode cL_net 398 = .ok (.astore 5, 2) := by decide +kernel
theorem dL_net_400 : decode cL_net 400 = .ok (.aload_n 0, 1) := by decide +kernel
theorem dL_net_401 : decode cL_net 401 = .ok (.ldc 112, 2) := by decide +kernel
theorem dL_net_403 : decode cL_net 403 = .ok (.invokevirtual 53, 3) := by decide +kernel
theorem dL_net_406 : decode cL_net 406 = .ok (.bipush 97, 2) := by decide +kernel
theorem dL_net_408 : decode cL_net 408 = .ok (.iload_n 3, 1) := by decide +kernel
theorem dL_net_409 : decode cL_net 409 = .ok (.iadd, 1) := by decide +kernel
theorem dL_net_410 : decode cL_net 410 = .ok (.i2c, 1) := by decide +kernel
theorem dL_net_411 : decode cL_net 411 = .ok (.invokevirtual 61, 3) := by decide +kernel
theorem dL_net_414 : decode cL_net 414 = .ok (.bipush 32, 2) := by decide +kernel
theorem dL_net_416 : decode cL_net 416 = .ok (.invokevirtual 61, 3) := by decide +kernel
theorem dL_net_419 : decode cL_net 419 = .ok (.aload 5, 2) := by decide +kernel
theorem dL_net_421 : decode cL_net 421 = .ok (.aload 4, 2) := by decide +kernel
theorem dL_net_423 : decode cL_net 423 = .ok (.getfield 91, 3) := by decide +kernel
theorem dL_net_426 : decode cL_net 426 = .ok (.aaload, 1) := by decide +kernel
theorem dL_net_427 : decode cL_net 427 = .ok (.invokevirtual 53, 3) := by decide +kernel
theorem dL_net_430 : decode cL_net 430 = .ok (.bipush 32, 2) := by decide +kernel
theorem dL_net_432 : decode cL_net 432 = .ok (.invokevirtual 61, 3) := by decide +kernel
theorem dL_net_435 : decode cL_net 435 = .ok (.aload 4, 2) := by decide +kernel
theorem dL_net_437 : decode cL_net 437 = .ok (.getfield 96, 3) := by decide +kernel
theorem dL_net_440 : decode cL_net 440 = .ok (.invokevirtual 58, 3) := by decide +kernel
theorem dL_net_443 : decode cL_net 443 = .ok (.bipush 32, 2) := by decide +kernel
theorem dL_net_445 : decode cL_net 445 = .ok (.invokevirtual 61, 3) := by decide +kernel
theorem dL_net_448 : decode cL_net 448 = .ok (.aload 4, 2) := by decide +kernel
theorem dL_net_450 : decode cL_net 450 = .ok (.getfield 99, 3) := by decide +kernel
theorem dL_net_453 : decode cL_net 453 = .ok (.invokevirtual 58, 3) := by decide +kernel
theorem dL_net_456 : decode cL_net 456 = .ok (.pop, 1) := by decide +kernel
theorem dL_net_457 : decode cL_net 457 = .ok (.iconst 0, 1) := by decide +kernel
theorem dL_net_458 : decode cL_net 458 = .ok (.istore 6, 2) := by decide +kernel
theorem dL_net_460 : decode cL_net 460 = .ok (.iconst 0, 1) := by decide +kernel
theorem dL_net_461 : decode cL_net 461 = .ok (.istore 7, 2) := by decide +kernel
theorem dL_net_463 : decode cL_net 463 = .ok (.iload 7, 2) := by decide +kernel
theorem dL_net_465 : decode cL_net 465 = .ok (.aload 4, 2) := by decide +kernel
theorem dL_net_467 : decode cL_net 467 = .ok (.getfield 102, 3) := by decide +kernel
theorem dL_net_470 : decode cL_net 470 = .ok (.if_icmp .ge 45, 3) := by decide +kernel
theorem dL_net_473 : decode cL_net 473 = .ok (.iload 6, 2) := by decide +kernel
theorem dL_net_475 : decode cL_net 475 = .ok (.iconst 1, 1) := by decide +kernel
theorem dL_net_476 : decode cL_net 476 = .ok (.aload_n 1, 1) := by decide +kernel
theorem dL_net_477 : decode cL_net 477 = .ok (.sipush 300, 3) := by decide +kernel
theorem dL_net_480 : decode cL_net 480 = .ok (.invokestatic 35, 3) := by decide +kernel
theorem dL_net_483 : decode cL_net 483 = .ok (.iadd, 1) := by decide +kernel
theorem dL_net_484 : decode cL_net 484 = .ok (.iadd, 1) := by decide +kernel
theorem dL_net_485 : decode cL_net 485 = .ok (.istore 6, 2) := by decide +kernel
theorem dL_net_487 : decode cL_net 487 = .ok (.aload 4, 2) := by decide +kernel
theorem dL_net_489 : decode cL_net 489 = .ok (.getfield 114, 3) := by decide +kernel
theorem dL_net_492 : decode cL_net 492 = .ok (.iload 7, 2) := by decide +kernel
theorem dL_net_494 : decode cL_net 494 = .ok (.iload 6, 2) := by decide +kernel
theorem dL_net_496 : decode cL_net 496 = .ok (.iastore, 1) := by decide +kernel
theorem dL_net_497 : decode cL_net 497 = .ok (.aload_n 0, 1) := by decide +kernel
theorem dL_net_498 : decode cL_net 498 = .ok (.bipush 32, 2) := by decide +kernel
theorem dL_net_500 : decode cL_net 500 = .ok (.invokevirtual 61, 3) := by decide +kernel
theorem dL_net_503 : decode cL_net 503 = .ok (.iload 6, 2) := by decide +kernel
theorem dL_net_505 : decode cL_net 505 = .ok (.invokevirtual 58, 3) := by decide +kernel
theorem dL_net_508 : decode cL_net 508 = .ok (.pop, 1) := by decide +kernel
theorem dL_net_509 : decode cL_net 509 = .ok (.iinc 7 1, 3) := by decide +kernel
theorem dL_net_512 : decode cL_net 512 = .ok (.goto (-49), 3) := by decide +kernel
theorem dL_net_515 : decode cL_net 515 = .ok (.aload_n 0, 1) := by decide +kernel
theorem dL_net_516 : decode cL_net 516 = .ok (.bipush 59, 2) := by decide +kernel
theorem dL_net_518 : decode cL_net 518 = .ok (.invokevirtual 61, 3) := by decide +kernel
theorem dL_net_521 : decode cL_net 521 = .ok (.pop, 1) := by decide +kernel
theorem dL_net_522 : decode cL_net 522 = .ok (.aload_n 1, 1) := by decide +kernel
theorem dL_net_523 : decode cL_net 523 = .ok (.iconst 3, 1) := by decide +kernel
theorem dL_net_524 : decode cL_net 524 = .ok (.invokestatic 35, 3) := by decide +kernel
theorem dL_net_527 : decode cL_net 527 = .ok (.ifCond .le 6, 3) := by decide +kernel
theorem dL_net_530 : decode cL_net 530 = .ok (.goto 47, 3) := by decide +kernel
theorem dL_net_533 : decode cL_net 533 = .ok (.aload 4, 2) := by decide +kernel
theorem dL_net_535 : decode cL_net 535 = .ok (.aload_n 1, 1) := by decide +kernel
theorem dL_net_536 : decode cL_net 536 = .ok (.bipush 30, 2) := by decide +kernel
theorem dL_net_538 : decode cL_net 538 = .ok (.invokestatic 35, 3) := by decide +kernel
theorem dL_net_541 : decode cL_net 541 = .ok (.putfield 117, 3) := by decide +kernel
theorem dL_net_544 : decode cL_net 544 = .ok (.aload_n 0, 1) := by decide +kernel
theorem dL_net_545 : decode cL_net 545 = .ok (.ldc 120, 2) := by decide +kernel
theorem dL_net_547 : decode cL_net 547 = .ok (.invokevirtual 53, 3) := by decide +kernel
theorem dL_net_550 : decode cL_net 550 = .ok (.bipush 97, 2) := by decide +kernel
theorem dL_net_552 : decode cL_net 552 = .ok (.iload_n 3, 1) := by decide +kernel
theorem dL_net_553 : decode cL_net 553 = .ok (.iadd, 1) := by decide +kernel
theorem dL_net_554 : decode cL_net 554 = .ok (.i2c, 1) := by decide +kernel
theorem dL_net_555 : decode cL_net 555 = .ok (.invokevirtual 61, 3) := by decide +kernel
theorem dL_net_558 : decode cL_net 558 = .ok (.bipush 32, 2) := by decide +kernel
theorem dL_net_560 : decode cL_net 560 = .ok (.invokevirtual 61, 3) := by decide +kernel
theorem dL_net_563 : decode cL_net 563 = .ok (.aload 4, 2) := by decide +kernel
theorem dL_net_565 : decode cL_net 565 = .ok (.getfield 117, 3) := by decide +kernel
theorem dL_net_568 : decode cL_net 568 = .ok (.invokevirtual 58, 3) := by decide +kernel
theorem dL_net_571 : decode cL_net 571 = .ok (.bipush 59, 2) := by decide +kernel
theorem dL_net_573 : decode cL_net 573 = .ok (.invokevirtual 61, 3) := by decide +kernel
theorem dL_net_576 : decode cL_net 576 = .ok (.pop, 1) := by decide +kernel
theorem dL_net_577 : decode cL_net 577 = .ok (.iinc 3 1, 3) := by decide +kernel
theorem dL_net_580 : decode cL_net 580 = .ok (.goto (-270), 3) := by decide +kernel
theorem dL_net_583 : decode cL_net 583 = .ok (.aload_n 2, 1) := by decide +kernel
theorem dL_net_584 : decode cL_net 584 = .ok (.areturn, 1) := by decide +kernel
theorem dL_plays_0 : decode cL_plays 0 = .ok (.new 54, 3) := by decide +kernel
theorem dL_plays_3 : decode cL_plays 3 = .ok (.dup, 1) := by decide +kernel
theorem dL_plays_4 : decode cL_plays 4 = .ok (.invokespecial 122, 3) := by decide +kernel
theorem dL_plays_7 : decode cL_plays 7 = .ok (.astore_n 2, 1) := by decide +kernel
theorem dL_plays_8 : decode cL_plays 8 = .ok (.aload_n 2, 1) := by decide +kernel
theorem dL_plays_9 : decode cL_plays 9 = .ok (.aload_n 1, 1) := by decide +kernel
theorem dL_plays_10 : decode cL_plays 10 = .ok (.invokestatic 123, 3) := by decide +kernel
theorem dL_plays_13 : decode cL_plays 13 = .ok (.astore_n 3, 1) := by decide +kernel
theorem dL_plays_14 : decode cL_plays 14 = .ok (.new 32, 3) := by decide +kernel
theorem dL_plays_17 : decode cL_plays 17 = .ok (.dup, 1) := by decide +kernel
theorem dL_plays_18 : decode cL_plays 18 = .ok (.invokespecial 34, 3) := by decide +kernel
theorem dL_plays_21 : decode cL_plays 21 = .ok (.astore 4, 2) := by decide +kernel
theorem dL_plays_23 : decode cL_plays 23 = .ok (.aload_n 0, 1) := by decide +kernel
theorem dL_plays_24 : decode cL_plays 24 = .ok (.aload_n 2, 1) := by decide +kernel
theorem dL_plays_25 : decode cL_plays 25 = .ok (.invokevirtual 127, 3) := by decide +kernel
theorem dL_plays_28 : decode cL_plays 28 = .ok (.invokestatic 131, 3) := by decide +kernel
theorem dL_plays_31 : decode cL_plays 31 = .ok (.ifCond .eq 14, 3) := by decide +kernel
theorem dL_plays_34 : decode cL_plays 34 = .ok (.aload_n 0, 1) := by decide +kernel
theorem dL_plays_35 : decode cL_plays 35 = .ok (.aload_n 2, 1) := by decide +kernel
theorem dL_plays_36 : decode cL_plays 36 = .ok (.invokevirtual 135, 3) := by decide +kernel
theorem dL_plays_39 : decode cL_plays 39 = .ok (.invokevirtual 136, 3) := by decide +kernel
theorem dL_plays_42 : decode cL_plays 42 = .ok (.ifCond .eq 5, 3) := by decide +kernel
theorem dL_plays_45 : decode cL_plays 45 = .ok (.iconst 0, 1) := by decide +kernel
theorem dL_plays_46 : decode cL_plays 46 = .ok (.ireturn, 1) := by decide +kernel
theorem dL_plays_47 : decode cL_plays 47 = .ok (.iconst 0, 1) := by decide +kernel
theorem dL_plays_48 : decode cL_plays 48 = .ok (.istore 5, 2) := by decide +kernel
theorem dL_plays_50 : decode cL_plays 50 = .ok (.iload 5, 2) := by decide +kernel
theorem dL_plays_52 : decode cL_plays 52 = .ok (.bipush 9, 2) := by decide +kernel
theorem dL_plays_54 : decode cL_plays 54 = .ok (.if_icmp .ge 39, 3) := by decide +kernel
theorem dL_plays_57 : decode cL_plays 57 = .ok (.aload_n 0, 1) := by decide +kernel
theorem dL_plays_58 : decode cL_plays 58 = .ok (.aload_n 3, 1) := by decide +kernel
theorem dL_plays_59 : decode cL_plays 59 = .ok (.aload_n 1, 1) := by decide +kernel
theorem dL_plays_60 : decode cL_plays 60 = .ok (.invokestatic 140, 3) := by decide +kernel
theorem dL_plays_63 : decode cL_plays 63 = .ok (.ifCond .eq 22, 3) := by decide +kernel
theorem dL_plays_66 : decode cL_plays 66 = .ok (.aload_n 0, 1) := by decide +kernel
theorem dL_plays_67 : decode cL_plays 67 = .ok (.aload_n 3, 1) := by decide +kernel
theorem dL_plays_68 : decode cL_plays 68 = .ok (.invokestatic 144, 3) := by decide +kernel
theorem dL_plays_71 : decode cL_plays 71 = .ok (.ifCond .eq 14, 3) := by decide +kernel
theorem dL_plays_74 : decode cL_plays 74 = .ok (.aload_n 0, 1) := by decide +kernel
theorem dL_plays_75 : decode cL_plays 75 = .ok (.aload_n 3, 1) := by decide +kernel
theorem dL_plays_76 : decode cL_plays 76 = .ok (.aload 4, 2) := by decide +kernel
theorem dL_plays_78 : decode cL_plays 78 = .ok (.aload_n 1, 1) := by decide +kernel
theorem dL_plays_79 : decode cL_plays 79 = .ok (.invokestatic 148, 3) := by decide +kernel
theorem dL_plays_82 : decode cL_plays 82 = .ok (.ifCond .ne 5, 3) := by decide +kernel
theorem dL_plays_85 : decode cL_plays 85 = .ok (.iconst 0, 1) := by decide +kernel
theorem dL_plays_86 : decode cL_plays 86 = .ok (.ireturn, 1) := by decide +kernel
theorem dL_plays_87 : decode cL_plays 87 = .ok (.iinc 5 1, 3) := by decide +kernel
theorem dL_plays_90 : decode cL_plays 90 = .ok (.goto (-40), 3) := by decide +kernel
theorem dL_plays_93 : decode cL_plays 93 = .ok (.iconst 1, 1) := by decide +kernel
theorem dL_plays_94 : decode cL_plays 94 = .ok (.ireturn, 1) := by decide +kernel
theorem dL_state_0 : decode cL_state 0 = .ok (.iconst 0, 1) := by decide +kernel
theorem dL_state_1 : decode cL_state 1 = .ok (.istore_n 2, 1) := by decide +kernel
theorem dL_state_2 : decode cL_state 2 = .ok (.iconst 0, 1) := by decide +kernel
theorem dL_state_3 : decode cL_state 3 = .ok (.istore_n 3, 1) := by decide +kernel
theorem dL_state_4 : decode cL_state 4 = .ok (.dconst 0, 1) := by decide +kernel
theorem dL_state_5 : decode cL_state 5 = .ok (.dstore 4, 2) := by decide +kernel
theorem dL_state_7 : decode cL_state 7 = .ok (.dconst 0, 1) := by decide +kernel
theorem dL_state_8 : decode cL_state 8 = .ok (.dstore 6, 2) := by decide +kernel
theorem dL_state_10 : decode cL_state 10 = .ok (.iconst 0, 1) := by decide +kernel
theorem dL_state_11 : decode cL_state 11 = .ok (.istore 8, 2) := by decide +kernel
theorem dL_state_13 : decode cL_state 13 = .ok (.iload 8, 2) := by decide +kernel
theorem dL_state_15 : decode cL_state 15 = .ok (.aload_n 1, 1) := by decide +kernel
theorem dL_state_16 : decode cL_state 16 = .ok (.getfield 84, 3) := by decide +kernel
theorem dL_state_19 : decode cL_state 19 = .ok (.if_icmp .ge 490, 3) := by decide +kernel
theorem dL_state_22 : decode cL_state 22 = .ok (.aload_n 1, 1) := by decide +kernel
theorem dL_state_23 : decode cL_state 23 = .ok (.getfield 87, 3) := by decide +kernel
theorem dL_state_26 : decode cL_state 26 = .ok (.iload 8, 2) := by decide +kernel
theorem dL_state_28 : decode cL_state 28 = .ok (.aaload, 1) := by decide +kernel
theorem dL_state_29 : decode cL_state 29 = .ok (.astore 9, 2) := by decide +kernel
theorem dL_state_31 : decode cL_state 31 = .ok (.iload_n 2, 1) := by decide +kernel
theorem dL_state_32 : decode cL_state 32 = .ok (.aload 9, 2) := by decide +kernel
theorem dL_state_34 : decode cL_state 34 = .ok (.getfield 152, 3) := by decide +kernel
theorem dL_state_37 : decode cL_state 37 = .ok (.iconst 4, 1) := by decide +kernel
theorem dL_state_38 : decode cL_state 38 = .ok (.if_icmp .eq 15, 3) := by decide +kernel
theorem dL_state_41 : decode cL_state 41 = .ok (.aload 9, 2) := by decide +kernel
theorem dL_state_43 : decode cL_state 43 = .ok (.getfield 154, 3) := by decide +kernel
theorem dL_state_46 : decode cL_state 46 = .ok (.ifCond .lt 7, 3) := by decide +kernel
theorem dL_state_49 : decode cL_state 49 = .ok (.iconst 1, 1) := by decide +kernel
theorem dL_state_50 : decode cL_state 50 = .ok (.goto 4, 3) := by decide +kernel
theorem dL_state_53 : decode cL_state 53 = .ok (.iconst 0, 1) := by decide +kernel
theorem dL_state_54 : decode cL_state 54 = .ok (.iadd, 1) := by decide +kernel
theorem dL_state_55 : decode cL_state 55 = .ok (.istore_n 2, 1) := by decide +kernel
theorem dL_state_56 : decode cL_state 56 = .ok (.iload_n 3, 1) := by decide +kernel
theorem dL_state_57 : decode cL_state 57 = .ok (.aload 9, 2) := by decide +kernel
theorem dL_state_59 : decode cL_state 59 = .ok (.getfield 152, 3) := by decide +kernel
theorem dL_state_62 : decode cL_state 62 = .ok (.iconst 3, 1) := by decide +kernel
theorem dL_state_63 : decode cL_state 63 = .ok (.if_icmp .ne 7, 3) := by decide +kernel
theorem dL_state_66 : decode cL_state 66 = .ok (.iconst 1, 1) := by decide +kernel
theorem dL_state_67 : decode cL_state 67 = .ok (.goto 4, 3) := by decide +kernel
theorem dL_state_70 : decode cL_state 70 = .ok (.iconst 0, 1) := by decide +kernel
theorem dL_state_71 : decode cL_state 71 = .ok (.iadd, 1) := by decide +kernel
theorem dL_state_72 : decode cL_state 72 = .ok (.istore_n 3, 1) := by decide +kernel
theorem dL_state_73 : decode cL_state 73 = .ok (.bipush 17, 2) := by decide +kernel
theorem dL_state_75 : decode cL_state 75 = .ok (.newarray .int, 2) := by decide +kernel
theorem dL_state_77 : decode cL_state 77 = .ok (.dup, 1) := by decide +kernel
theorem dL_state_78 : decode cL_state 78 = .ok (.iconst 0, 1) := by decide +kernel
theorem dL_state_79 : decode cL_state 79 = .ok (.aload 9, 2) := by decide +kernel
theorem dL_state_81 : decode cL_state 81 = .ok (.getfield 152, 3) := by decide +kernel
theorem dL_state_84 : decode cL_state 84 = .ok (.iastore, 1) := by decide +kernel
theorem dL_state_85 : decode cL_state 85 = .ok (.dup, 1) := by decide +kernel
theorem dL_state_86 : decode cL_state 86 = .ok (.iconst 1, 1) := by decide +kernel
theorem dL_state_87 : decode cL_state 87 = .ok (.aload 9, 2) := by decide +kernel
theorem dL_state_89 : decode cL_state 89 = .ok (.getfield 157, 3) := by decide +kernel
theorem dL_state_92 : decode cL_state 92 = .ok (.iastore, 1) := by decide +kernel
theorem dL_state_93 : decode cL_state 93 = .ok (.dup, 1) := by decide +kernel
theorem dL_state_94 : decode cL_state 94 = .ok (.iconst 2, 1) := by decide +kernel
theorem dL_state_95 : decode cL_state 95 = .ok (.aload 9, 2) := by decide +kernel
theorem dL_state_97 : decode cL_state 97 = .ok (.getfield 159, 3) := by decide +kernel
theorem dL_state_100 : decode cL_state 100 = .ok (.iastore, 1) := by decide +kernel
theorem dL_state_101 : decode cL_state 101 = .ok (.dup, 1) := by decide +kernel
theorem dL_state_102 : decode cL_state 102 = .ok (.iconst 3, 1) := by decide +kernel
theorem dL_state_103 : decode cL_state 103 = .ok (.aload 9, 2) := by decide +kernel
theorem dL_state_105 : decode cL_state 105 = .ok (.getfield 154, 3) := by decide +kernel
theorem dL_state_108 : decode cL_state 108 = .ok (.iastore, 1) := by decide +kernel
theorem dL_state_109 : decode cL_state 109 = .ok (.dup, 1) := by decide +kernel
theorem dL_state_110 : decode cL_state 110 = .ok (.iconst 4, 1) := by decide +kernel
theorem dL_state_111 : decode cL_state 111 = .ok (.aload 9, 2) := by decide +kernel
theorem dL_state_113 : decode cL_state 113 = .ok (.getfield 154, 3) := by decide +kernel
theorem dL_state_116 : decode cL_state 116 = .ok (.ifCond .ge 7, 3) := by decide +kernel
theorem dL_state_119 : decode cL_state 119 = .ok (.iconst 0, 1) := by decide +kernel
theorem dL_state_120 : decode cL_state 120 = .ok (.goto 8, 3) := by decide +kernel
theorem dL_state_123 : decode cL_state 123 = .ok (.aload 9, 2) := by decide +kernel
theorem dL_state_125 : decode cL_state 125 = .ok (.getfield 162, 3) := by decide +kernel
theorem dL_state_128 : decode cL_state 128 = .ok (.iastore, 1) := by decide +kernel
theorem dL_state_129 : decode cL_state 129 = .ok (.dup, 1) := by decide +kernel
theorem dL_state_130 : decode cL_state 130 = .ok (.iconst 5, 1) := by decide +kernel
theorem dL_state_131 : decode cL_state 131 = .ok (.aload 9, 2) := by decide +kernel
theorem dL_state_133 : decode cL_state 133 = .ok (.getfield 165, 3) := by decide +kernel
theorem dL_state_136 : decode cL_state 136 = .ok (.iastore, 1) := by decide +kernel
theorem dL_state_137 : decode cL_state 137 = .ok (.dup, 1) := by decide +kernel
theorem dL_state_138 : decode cL_state 138 = .ok (.bipush 6, 2) := by decide +kernel
theorem dL_state_140 : decode cL_state 140 = .ok (.aload 9, 2) := by decide +kernel
theorem dL_state_142 : decode cL_state 142 = .ok (.getfield 168, 3) := by decide +kernel
theorem dL_state_145 : decode cL_state 145 = .ok (.iastore, 1) := by decide +kernel
theorem dL_state_146 : decode cL_state 146 = .ok (.dup, 1) := by decide +kernel
theorem dL_state_147 : decode cL_state 147 = .ok (.bipush 7, 2) := by decide +kernel
theorem dL_state_149 : decode cL_state 149 = .ok (.aload 9, 2) := by decide +kernel
theorem dL_state_151 : decode cL_state 151 = .ok (.getfield 171, 3) := by decide +kernel
theorem dL_state_154 : decode cL_state 154 = .ok (.iastore, 1) := by decide +kernel
theorem dL_state_155 : decode cL_state 155 = .ok (.dup, 1) := by decide +kernel
theorem dL_state_156 : decode cL_state 156 = .ok (.bipush 8, 2) := by decide +kernel
theorem dL_state_158 : decode cL_state 158 = .ok (.aload 9, 2) := by decide +kernel
theorem dL_state_160 : decode cL_state 160 = .ok (.getfield 174, 3) := by decide +kernel
theorem dL_state_163 : decode cL_state 163 = .ok (.iastore, 1) := by decide +kernel
theorem dL_state_164 : decode cL_state 164 = .ok (.dup, 1) := by decide +kernel
theorem dL_state_165 : decode cL_state 165 = .ok (.bipush 9, 2) := by decide +kernel
theorem dL_state_167 : decode cL_state 167 = .ok (.aload 9, 2) := by decide +kernel
theorem dL_state_169 : decode cL_state 169 = .ok (.getfield 177, 3) := by decide +kernel
theorem dL_state_172 : decode cL_state 172 = .ok (.iastore, 1) := by decide +kernel
theorem dL_state_173 : decode cL_state 173 = .ok (.dup, 1) := by decide +kernel
theorem dL_state_174 : decode cL_state 174 = .ok (.bipush 10, 2) := by decide +kernel
theorem dL_state_176 : decode cL_state 176 = .ok (.aload 9, 2) := by decide +kernel
theorem dL_state_178 : decode cL_state 178 = .ok (.getfield 180, 3) := by decide +kernel
theorem dL_state_181 : decode cL_state 181 = .ok (.iastore, 1) := by decide +kernel
theorem dL_state_182 : decode cL_state 182 = .ok (.dup, 1) := by decide +kernel
theorem dL_state_183 : decode cL_state 183 = .ok (.bipush 11, 2) := by decide +kernel
theorem dL_state_185 : decode cL_state 185 = .ok (.aload 9, 2) := by decide +kernel
theorem dL_state_187 : decode cL_state 187 = .ok (.getfield 183, 3) := by decide +kernel
theorem dL_state_190 : decode cL_state 190 = .ok (.iastore, 1) := by decide +kernel
theorem dL_state_191 : decode cL_state 191 = .ok (.dup, 1) := by decide +kernel
theorem dL_state_192 : decode cL_state 192 = .ok (.bipush 12, 2) := by decide +kernel
theorem dL_state_194 : decode cL_state 194 = .ok (.aload 9, 2) := by decide +kernel
theorem dL_state_196 : decode cL_state 196 = .ok (.getfield 91, 3) := by decide +kernel
theorem dL_state_199 : decode cL_state 199 = .ok (.iastore, 1) := by decide +kernel
theorem dL_state_200 : decode cL_state 200 = .ok (.dup, 1) := by decide +kernel
theorem dL_state_201 : decode cL_state 201 = .ok (.bipush 13, 2) := by decide +kernel
theorem dL_state_203 : decode cL_state 203 = .ok (.aload 9, 2) := by decide +kernel
theorem dL_state_205 : decode cL_state 205 = .ok (.getfield 99, 3) := by decide +kernel
theorem dL_state_208 : decode cL_state 208 = .ok (.iastore, 1) := by decide +kernel
theorem dL_state_209 : decode cL_state 209 = .ok (.dup, 1) := by decide +kernel
theorem dL_state_210 : decode cL_state 210 = .ok (.bipush 14, 2) := by decide +kernel
theorem dL_state_212 : decode cL_state 212 = .ok (.aload 9, 2) := by decide +kernel
theorem dL_state_214 : decode cL_state 214 = .ok (.getfield 96, 3) := by decide +kernel
theorem dL_state_217 : decode cL_state 217 = .ok (.iastore, 1) := by decide +kernel
theorem dL_state_218 : decode cL_state 218 = .ok (.dup, 1) := by decide +kernel
theorem dL_state_219 : decode cL_state 219 = .ok (.bipush 15, 2) := by decide +kernel
theorem dL_state_221 : decode cL_state 221 = .ok (.aload 9, 2) := by decide +kernel
theorem dL_state_223 : decode cL_state 223 = .ok (.getfield 102, 3) := by decide +kernel
theorem dL_state_226 : decode cL_state 226 = .ok (.iastore, 1) := by decide +kernel
theorem dL_state_227 : decode cL_state 227 = .ok (.dup, 1) := by decide +kernel
theorem dL_state_228 : decode cL_state 228 = .ok (.bipush 16, 2) := by decide +kernel
theorem dL_state_230 : decode cL_state 230 = .ok (.aload 9, 2) := by decide +kernel
theorem dL_state_232 : decode cL_state 232 = .ok (.getfield 117, 3) := by decide +kernel
theorem dL_state_235 : decode cL_state 235 = .ok (.iastore, 1) := by decide +kernel
theorem dL_state_236 : decode cL_state 236 = .ok (.astore 10, 2) := by decide +kernel
theorem dL_state_238 : decode cL_state 238 = .ok (.iconst 0, 1) := by decide +kernel
theorem dL_state_239 : decode cL_state 239 = .ok (.istore 11, 2) := by decide +kernel
theorem dL_state_241 : decode cL_state 241 = .ok (.iload 11, 2) := by decide +kernel
theorem dL_state_243 : decode cL_state 243 = .ok (.bipush 17, 2) := by decide +kernel
theorem dL_state_245 : decode cL_state 245 = .ok (.if_icmp .ge 27, 3) := by decide +kernel
theorem dL_state_248 : decode cL_state 248 = .ok (.aload_n 0, 1) := by decide +kernel
theorem dL_state_249 : decode cL_state 249 = .ok (.iload 8, 2) := by decide +kernel
theorem dL_state_251 : decode cL_state 251 = .ok (.iload 11, 2) := by decide +kernel
theorem dL_state_253 : decode cL_state 253 = .ok (.invokevirtual 186, 3) := by decide +kernel
theorem dL_state_256 : decode cL_state 256 = .ok (.aload 10, 2) := by decide +kernel
theorem dL_state_258 : decode cL_state 258 = .ok (.iload 11, 2) := by decide +kernel
theorem dL_state_260 : decode cL_state 260 = .ok (.iaload, 1) := by decide +kernel
theorem dL_state_261 : decode cL_state 261 = .ok (.if_icmp .eq 5, 3) := by decide +kernel
theorem dL_state_264 : decode cL_state 264 = .ok (.iconst 0, 1) := by decide +kernel
theorem dL_state_265 : decode cL_state 265 = .ok (.ireturn, 1) := by decide +kernel
theorem dL_state_266 : decode cL_state 266 = .ok (.iinc 11 1, 3) := by decide +kernel
theorem dL_state_269 : decode cL_state 269 = .ok (.goto (-28), 3) := by decide +kernel
theorem dL_state_272 : decode cL_state 272 = .ok (.iconst 0, 1) := by decide +kernel
theorem dL_state_273 : decode cL_state 273 = .ok (.istore 11, 2) := by decide +kernel
theorem dL_state_275 : decode cL_state 275 = .ok (.iload 11, 2) := by decide +kernel
theorem dL_state_277 : decode cL_state 277 = .ok (.aload 9, 2) := by decide +kernel
theorem dL_state_279 : decode cL_state 279 = .ok (.getfield 96, 3) := by decide +kernel
theorem dL_state_282 : decode cL_state 282 = .ok (.if_icmp .ge 152, 3) := by decide +kernel
theorem dL_state_285 : decode cL_state 285 = .ok (.iload 11, 2) := by decide +kernel
theorem dL_state_287 : decode cL_state 287 = .ok (.aload 9, 2) := by decide +kernel
theorem dL_state_289 : decode cL_state 289 = .ok (.getfield 159, 3) := by decide +kernel
theorem dL_state_292 : decode cL_state 292 = .ok (.if_icmp .ge 7, 3) := by decide +kernel
theorem dL_state_295 : decode cL_state 295 = .ok (.iconst 1, 1) := by decide +kernel
theorem dL_state_296 : decode cL_state 296 = .ok (.goto 4, 3) := by decide +kernel
theorem dL_state_299 : decode cL_state 299 = .ok (.iconst 0, 1) := by decide +kernel
theorem dL_state_300 : decode cL_state 300 = .ok (.istore 12, 2) := by decide +kernel
theorem dL_state_302 : decode cL_state 302 = .ok (.aload_n 0, 1) := by decide +kernel
theorem dL_state_303 : decode cL_state 303 = .ok (.iload 8, 2) := by decide +kernel
theorem dL_state_305 : decode cL_state 305 = .ok (.iload 11, 2) := by decide +kernel
theorem dL_state_307 : decode cL_state 307 = .ok (.iconst 0, 1) := by decide +kernel
theorem dL_state_308 : decode cL_state 308 = .ok (.invokevirtual 190, 3) := by decide +kernel
theorem dL_state_311 : decode cL_state 311 = .ok (.iload 12, 2) := by decide +kernel
theorem dL_state_313 : decode cL_state 313 = .ok (.ifCond .eq 14, 3) := by decide +kernel
theorem dL_state_316 : decode cL_state 316 = .ok (.aload 9, 2) := by decide +kernel
theorem dL_state_318 : decode cL_state 318 = .ok (.getfield 193, 3) := by decide +kernel
theorem dL_state_321 : decode cL_state 321 = .ok (.iload 11, 2) := by decide +kernel
theorem dL_state_323 : decode cL_state 323 = .ok (.iaload, 1) := by decide +kernel
theorem dL_state_324 : decode cL_state 324 = .ok (.goto 4, 3) := by decide +kernel
theorem dL_state_327 : decode cL_state 327 = .ok (.iconst (-1), 1) := by decide +kernel
theorem dL_state_328 : decode cL_state 328 = .ok (.if_icmp .ne 98, 3) := by decide +kernel
theorem dL_state_331 : decode cL_state 331 = .ok (.aload_n 0, 1) := by decide +kernel
theorem dL_state_332 : decode cL_state 332 = .ok (.iload 8, 2) := by decide +kernel
theorem dL_state_334 : decode cL_state 334 = .ok (.iload 11, 2) := by decide +kernel
theorem dL_state_336 : decode cL_state 336 = .ok (.iconst 1, 1) := by decide +kernel
theorem dL_state_337 : decode cL_state 337 = .ok (.invokevirtual 190, 3) := by decide +kernel
theorem dL_state_340 : decode cL_state 340 = .ok (.iload 12, 2) := by decide +kernel
theorem dL_state_342 : decode cL_state 342 = .ok (.ifCond .eq 22, 3) := by decide +kernel
theorem dL_state_345 : decode cL_state 345 = .ok (.aload_n 1, 1) := by decide +kernel
theorem dL_state_346 : decode cL_state 346 = .ok (.aload 9, 2) := by decide +kernel
theorem dL_state_348 : decode cL_state 348 = .ok (.iload 11, 2) := by decide +kernel
theorem dL_state_350 : decode cL_state 350 = .ok (.aload 9, 2) := by decide +kernel
theorem dL_state_352 : decode cL_state 352 = .ok (.getfield 193, 3) := by decide +kernel
theorem dL_state_355 : decode cL_state 355 = .ok (.iload 11, 2) := by decide +kernel
theorem dL_state_357 : decode cL_state 357 = .ok (.iaload, 1) := by decide +kernel
theorem dL_state_358 : decode cL_state 358 = .ok (.invokevirtual 196, 3) := by decide +kernel
theorem dL_state_361 : decode cL_state 361 = .ok (.goto 4, 3) := by decide +kernel
theorem dL_state_364 : decode cL_state 364 = .ok (.iconst (-1), 1) := by decide +kernel
theorem dL_state_365 : decode cL_state 365 = .ok (.if_icmp .ne 61, 3) := by decide +kernel
theorem dL_state_368 : decode cL_state 368 = .ok (.aload_n 0, 1) := by decide +kernel
theorem dL_state_369 : decode cL_state 369 = .ok (.iload 8, 2) := by decide +kernel
theorem dL_state_371 : decode cL_state 371 = .ok (.iload 11, 2) := by decide +kernel
theorem dL_state_373 : decode cL_state 373 = .ok (.iconst 2, 1) := by decide +kernel
theorem dL_state_374 : decode cL_state 374 = .ok (.invokevirtual 190, 3) := by decide +kernel
theorem dL_state_377 : decode cL_state 377 = .ok (.iload 12, 2) := by decide +kernel
theorem dL_state_379 : decode cL_state 379 = .ok (.ifCond .eq 14, 3) := by decide +kernel
theorem dL_state_382 : decode cL_state 382 = .ok (.aload 9, 2) := by decide +kernel
theorem dL_state_384 : decode cL_state 384 = .ok (.getfield 200, 3) := by decide +kernel
theorem dL_state_387 : decode cL_state 387 = .ok (.iload 11, 2) := by decide +kernel
theorem dL_state_389 : decode cL_state 389 = .ok (.iaload, 1) := by decide +kernel
theorem dL_state_390 : decode cL_state 390 = .ok (.goto 4, 3) := by decide +kernel
theorem dL_state_393 : decode cL_state 393 = .ok (.iconst (-1), 1) := by decide +kernel
theorem dL_state_394 : decode cL_state 394 = .ok (.if_icmp .ne 32, 3) := by decide +kernel
theorem dL_state_397 : decode cL_state 397 = .ok (.aload_n 0, 1) := by decide +kernel
theorem dL_state_398 : decode cL_state 398 = .ok (.iload 8, 2) := by decide +kernel
theorem dL_state_400 : decode cL_state 400 = .ok (.iload 11, 2) := by decide +kernel
theorem dL_state_402 : decode cL_state 402 = .ok (.iconst 3, 1) := by decide +kernel
theorem dL_state_403 : decode cL_state 403 = .ok (.invokevirtual 190, 3) := by decide +kernel
theorem dL_state_406 : decode cL_state 406 = .ok (.iload 12, 2) := by decide +kernel
theorem dL_state_408 : decode cL_state 408 = .ok (.ifCond .eq 14, 3) := by decide +kernel
theorem dL_state_411 : decode cL_state 411 = .ok (.aload 9, 2) := by decide +kernel
theorem dL_state_413 : decode cL_state 413 = .ok (.getfield 203, 3) := by decide +kernel
theorem dL_state_416 : decode cL_state 416 = .ok (.iload 11, 2) := by decide +kernel
theorem dL_state_418 : decode cL_state 418 = .ok (.iaload, 1) := by decide +kernel
theorem dL_state_419 : decode cL_state 419 = .ok (.goto 4, 3) := by decide +kernel
theorem dL_state_422 : decode cL_state 422 = .ok (.iconst (-1), 1) := by decide +kernel
theorem dL_state_423 : decode cL_state 423 = .ok (.if_icmp .eq 5, 3) := by decide +kernel
theorem dL_state_426 : decode cL_state 426 = .ok (.iconst 0, 1) := by decide +kernel
theorem dL_state_427 : decode cL_state 427 = .ok (.ireturn, 1) := by decide +kernel
theorem dL_state_428 : decode cL_state 428 = .ok (.iinc 11 1, 3) := by decide +kernel
theorem dL_state_431 : decode cL_state 431 = .ok (.goto (-156), 3) := by decide +kernel
theorem dL_state_434 : decode cL_state 434 = .ok (.aload_n 0, 1) := by decide +kernel
theorem dL_state_435 : decode cL_state 435 = .ok (.iload 8, 2) := by decide +kernel
theorem dL_state_437 : decode cL_state 437 = .ok (.invokevirtual 206, 3) := by decide +kernel
theorem dL_state_440 : decode cL_state 440 = .ok (.aload 9, 2) := by decide +kernel
theorem dL_state_442 : decode cL_state 442 = .ok (.getfield 159, 3) := by decide +kernel
theorem dL_state_445 : decode cL_state 445 = .ok (.ifCond .ne 7, 3) := by decide +kernel
theorem dL_state_448 : decode cL_state 448 = .ok (.dconst 0, 1) := by decide +kernel
theorem dL_state_449 : decode cL_state 449 = .ok (.goto 16, 3) := by decide +kernel
theorem dL_state_452 : decode cL_state 452 = .ok (.aload 9, 2) := by decide +kernel
theorem dL_state_454 : decode cL_state 454 = .ok (.getfield 177, 3) := by decide +kernel
theorem dL_state_457 : decode cL_state 457 = .ok (.i2d, 1) := by decide +kernel
theorem dL_state_458 : decode cL_state 458 = .ok (.aload 9, 2) := by decide +kernel
theorem dL_state_460 : decode cL_state 460 = .ok (.getfield 159, 3) := by decide +kernel
theorem dL_state_463 : decode cL_state 463 = .ok (.i2d, 1) := by decide +kernel
theorem dL_state_464 : decode cL_state 464 = .ok (.ddiv, 1) := by decide +kernel
theorem dL_state_465 : decode cL_state 465 = .ok (.dcmp .l, 1) := by decide +kernel
theorem dL_state_466 : decode cL_state 466 = .ok (.ifCond .eq 5, 3) := by decide +kernel
theorem dL_state_469 : decode cL_state 469 = .ok (.iconst 0, 1) := by decide +kernel
theorem dL_state_470 : decode cL_state 470 = .ok (.ireturn, 1) := by decide +kernel
theorem dL_state_471 : decode cL_state 471 = .ok (.aload 9, 2) := by decide +kernel
theorem dL_state_473 : decode cL_state 473 = .ok (.getfield 180, 3) := by decide +kernel
theorem dL_state_476 : decode cL_state 476 = .ok (.i2d, 1) := by decide +kernel
theorem dL_state_477 : decode cL_state 477 = .ok (.aload 9, 2) := by decide +kernel
theorem dL_state_479 : decode cL_state 479 = .ok (.getfield 99, 3) := by decide +kernel
theorem dL_state_482 : decode cL_state 482 = .ok (.i2d, 1) := by decide +kernel
theorem dL_state_483 : decode cL_state 483 = .ok (.ddiv, 1) := by decide +kernel
theorem dL_state_484 : decode cL_state 484 = .ok (.dstore 11, 2) := by decide +kernel
theorem dL_state_486 : decode cL_state 486 = .ok (.dload 4, 2) := by decide +kernel
theorem dL_state_488 : decode cL_state 488 = .ok (.dload 11, 2) := by decide +kernel
theorem dL_state_490 : decode cL_state 490 = .ok (.dadd, 1) := by decide +kernel
theorem dL_state_491 : decode cL_state 491 = .ok (.dstore 4, 2) := by decide +kernel
theorem dL_state_493 : decode cL_state 493 = .ok (.dload 6, 2) := by decide +kernel
theorem dL_state_495 : decode cL_state 495 = .ok (.dload 11, 2) := by decide +kernel
theorem dL_state_497 : decode cL_state 497 = .ok (.dload 11, 2) := by decide +kernel
theorem dL_state_499 : decode cL_state 499 = .ok (.dmul, 1) := by decide +kernel
theorem dL_state_500 : decode cL_state 500 = .ok (.dadd, 1) := by decide +kernel
theorem dL_state_501 : decode cL_state 501 = .ok (.dstore 6, 2) := by decide +kernel
theorem dL_state_503 : decode cL_state 503 = .ok (.iinc 8 1, 3) := by decide +kernel
theorem dL_state_506 : decode cL_state 506 = .ok (.goto (-493), 3) := by decide +kernel
theorem dL_state_509 : decode cL_state 509 = .ok (.bipush 10, 2) := by decide +kernel
theorem dL_state_511 : decode cL_state 511 = .ok (.newarray .int, 2) := by decide +kernel
theorem dL_state_513 : decode cL_state 513 = .ok (.dup, 1) := by decide +kernel
theorem dL_state_514 : decode cL_state 514 = .ok (.iconst 0, 1) := by decide +kernel
theorem dL_state_515 : decode cL_state 515 = .ok (.aload_n 1, 1) := by decide +kernel
theorem dL_state_516 : decode cL_state 516 = .ok (.getfield 84, 3) := by decide +kernel
theorem dL_state_519 : decode cL_state 519 = .ok (.iastore, 1) := by decide +kernel
theorem dL_state_520 : decode cL_state 520 = .ok (.dup, 1) := by decide +kernel
theorem dL_state_521 : decode cL_state 521 = .ok (.iconst 1, 1) := by decide +kernel
theorem dL_state_522 : decode cL_state 522 = .ok (.aload_n 1, 1) := by decide +kernel
theorem dL_state_523 : decode cL_state 523 = .ok (.getfield 64, 3) := by decide +kernel
theorem dL_state_526 : decode cL_state 526 = .ok (.iastore, 1) := by decide +kernel
theorem dL_state_527 : decode cL_state 527 = .ok (.dup, 1) := by decide +kernel
theorem dL_state_528 : decode cL_state 528 = .ok (.iconst 2, 1) := by decide +kernel
theorem dL_state_529 : decode cL_state 529 = .ok (.aload_n 1, 1) := by decide +kernel
theorem dL_state_530 : decode cL_state 530 = .ok (.getfield 39, 3) := by decide +kernel
theorem dL_state_533 : decode cL_state 533 = .ok (.iastore, 1) := by decide +kernel
theorem dL_state_534 : decode cL_state 534 = .ok (.dup, 1) := by decide +kernel
theorem dL_state_535 : decode cL_state 535 = .ok (.iconst 3, 1) := by decide +kernel
theorem dL_state_536 : decode cL_state 536 = .ok (.aload_n 1, 1) := by decide +kernel
theorem dL_state_537 : decode cL_state 537 = .ok (.getfield 42, 3) := by decide +kernel
theorem dL_state_540 : decode cL_state 540 = .ok (.iastore, 1) := by decide +kernel
theorem dL_state_541 : decode cL_state 541 = .ok (.dup, 1) := by decide +kernel
theorem dL_state_542 : decode cL_state 542 = .ok (.iconst 4, 1) := by decide +kernel
theorem dL_state_543 : decode cL_state 543 = .ok (.aload_n 1, 1) := by decide +kernel
theorem dL_state_544 : decode cL_state 544 = .ok (.getfield 45, 3) := by decide +kernel
theorem dL_state_547 : decode cL_state 547 = .ok (.iastore, 1) := by decide +kernel
theorem dL_state_548 : decode cL_state 548 = .ok (.dup, 1) := by decide +kernel
theorem dL_state_549 : decode cL_state 549 = .ok (.iconst 5, 1) := by decide +kernel
theorem dL_state_550 : decode cL_state 550 = .ok (.aload_n 1, 1) := by decide +kernel
theorem dL_state_551 : decode cL_state 551 = .ok (.getfield 48, 3) := by decide +kernel
theorem dL_state_554 : decode cL_state 554 = .ok (.iastore, 1) := by decide +kernel
theorem dL_state_555 : decode cL_state 555 = .ok (.dup, 1) := by decide +kernel
theorem dL_state_556 : decode cL_state 556 = .ok (.bipush 6, 2) := by decide +kernel
theorem dL_state_558 : decode cL_state 558 = .ok (.aload_n 1, 1) := by decide +kernel
theorem dL_state_559 : decode cL_state 559 = .ok (.getfield 76, 3) := by decide +kernel
theorem dL_state_562 : decode cL_state 562 = .ok (.iastore, 1) := by decide +kernel
theorem dL_state_563 : decode cL_state 563 = .ok (.dup, 1) := by decide +kernel
theorem dL_state_564 : decode cL_state 564 = .ok (.bipush 7, 2) := by decide +kernel
theorem dL_state_566 : decode cL_state 566 = .ok (.aload_n 1, 1) := by decide +kernel
theorem dL_state_567 : decode cL_state 567 = .ok (.getfield 210, 3) := by decide +kernel
theorem dL_state_570 : decode cL_state 570 = .ok (.iastore, 1) := by decide +kernel
theorem dL_state_571 : decode cL_state 571 = .ok (.dup, 1) := by decide +kernel
theorem dL_state_572 : decode cL_state 572 = .ok (.bipush 8, 2) := by decide +kernel
theorem dL_state_574 : decode cL_state 574 = .ok (.iload_n 2, 1) := by decide +kernel
theorem dL_state_575 : decode cL_state 575 = .ok (.iastore, 1) := by decide +kernel
theorem dL_state_576 : decode cL_state 576 = .ok (.dup, 1) := by decide +kernel
theorem dL_state_577 : decode cL_state 577 = .ok (.bipush 9, 2) := by decide +kernel
theorem dL_state_579 : decode cL_state 579 = .ok (.iload_n 3, 1) := by decide +kernel
theorem dL_state_580 : decode cL_state 580 = .ok (.iastore, 1) := by decide +kernel
theorem dL_state_581 : decode cL_state 581 = .ok (.astore 8, 2) := by decide +kernel
theorem dL_state_583 : decode cL_state 583 = .ok (.iconst 0, 1) := by decide +kernel
theorem dL_state_584 : decode cL_state 584 = .ok (.istore 9, 2) := by decide +kernel
theorem dL_state_586 : decode cL_state 586 = .ok (.iload 9, 2) := by decide +kernel
theorem dL_state_588 : decode cL_state 588 = .ok (.bipush 10, 2) := by decide +kernel
theorem dL_state_590 : decode cL_state 590 = .ok (.if_icmp .ge 25, 3) := by decide +kernel
theorem dL_state_593 : decode cL_state 593 = .ok (.aload_n 0, 1) := by decide +kernel
theorem dL_state_594 : decode cL_state 594 = .ok (.iload 9, 2) := by decide +kernel
theorem dL_state_596 : decode cL_state 596 = .ok (.invokevirtual 213, 3) := by decide +kernel
theorem dL_state_599 : decode cL_state 599 = .ok (.aload 8, 2) := by decide +kernel
theorem dL_state_601 : decode cL_state 601 = .ok (.iload 9, 2) := by decide +kernel
theorem dL_state_603 : decode cL_state 603 = .ok (.iaload, 1) := by decide +kernel
theorem dL_state_604 : decode cL_state 604 = .ok (.if_icmp .eq 5, 3) := by decide +kernel
theorem dL_state_607 : decode cL_state 607 = .ok (.iconst 0, 1) := by decide +kernel
theorem dL_state_608 : decode cL_state 608 = .ok (.ireturn, 1) := by decide +kernel
theorem dL_state_609 : decode cL_state 609 = .ok (.iinc 9 1, 3) := by decide +kernel
theorem dL_state_612 : decode cL_state 612 = .ok (.goto (-26), 3) := by decide +kernel
theorem dL_state_615 : decode cL_state 615 = .ok (.iconst 0, 1) := by decide +kernel
theorem dL_state_616 : decode cL_state 616 = .ok (.istore 9, 2) := by decide +kernel
theorem dL_state_618 : decode cL_state 618 = .ok (.iload 9, 2) := by decide +kernel
theorem dL_state_620 : decode cL_state 620 = .ok (.iconst 4, 1) := by decide +kernel
theorem dL_state_621 : decode cL_state 621 = .ok (.if_icmp .ge 27, 3) := by decide +kernel
theorem dL_state_624 : decode cL_state 624 = .ok (.aload_n 0, 1) := by decide +kernel
theorem dL_state_625 : decode cL_state 625 = .ok (.iload 9, 2) := by decide +kernel
theorem dL_state_627 : decode cL_state 627 = .ok (.invokevirtual 215, 3) := by decide +kernel
theorem dL_state_630 : decode cL_state 630 = .ok (.aload_n 1, 1) := by decide +kernel
theorem dL_state_631 : decode cL_state 631 = .ok (.getfield 218, 3) := by decide +kernel
theorem dL_state_634 : decode cL_state 634 = .ok (.iload 9, 2) := by decide +kernel
theorem dL_state_636 : decode cL_state 636 = .ok (.iaload, 1) := by decide +kernel
theorem dL_state_637 : decode cL_state 637 = .ok (.if_icmp .eq 5, 3) := by decide +kernel
theorem dL_state_640 : decode cL_state 640 = .ok (.iconst 0, 1) := by decide +kernel
theorem dL_state_641 : decode cL_state 641 = .ok (.ireturn, 1) := by decide +kernel
theorem dL_state_642 : decode cL_state 642 = .ok (.iinc 9 1, 3) := by decide +kernel
theorem dL_state_645 : decode cL_state 645 = .ok (.goto (-27), 3) := by decide +kernel
theorem dL_state_648 : decode cL_state 648 = .ok (.iconst 0, 1) := by decide +kernel
theorem dL_state_649 : decode cL_state 649 = .ok (.istore 9, 2) := by decide +kernel
theorem dL_state_651 : decode cL_state 651 = .ok (.iload 9, 2) := by decide +kernel
theorem dL_state_653 : decode cL_state 653 = .ok (.bipush 9, 2) := by decide +kernel
theorem dL_state_655 : decode cL_state 655 = .ok (.if_icmp .ge 32, 3) := by decide +kernel
theorem dL_state_658 : decode cL_state 658 = .ok (.aload_n 0, 1) := by decide +kernel
theorem dL_state_659 : decode cL_state 659 = .ok (.bipush 7, 2) := by decide +kernel
theorem dL_state_661 : decode cL_state 661 = .ok (.iload 9, 2) := by decide +kernel
theorem dL_state_663 : decode cL_state 663 = .ok (.imul, 1) := by decide +kernel
theorem dL_state_664 : decode cL_state 664 = .ok (.invokevirtual 221, 3) := by decide +kernel
theorem dL_state_667 : decode cL_state 667 = .ok (.aload_n 1, 1) := by decide +kernel
theorem dL_state_668 : decode cL_state 668 = .ok (.bipush 7, 2) := by decide +kernel
theorem dL_state_670 : decode cL_state 670 = .ok (.iload 9, 2) := by decide +kernel
theorem dL_state_672 : decode cL_state 672 = .ok (.imul, 1) := by decide +kernel
theorem dL_state_673 : decode cL_state 673 = .ok (.invokevirtual 223, 3) := by decide +kernel
theorem dL_state_676 : decode cL_state 676 = .ok (.if_icmp .eq 5, 3) := by decide +kernel
theorem dL_state_679 : decode cL_state 679 = .ok (.iconst 0, 1) := by decide +kernel
theorem dL_state_680 : decode cL_state 680 = .ok (.ireturn, 1) := by decide +kernel
theorem dL_state_681 : decode cL_state 681 = .ok (.iinc 9 1, 3) := by decide +kernel
theorem dL_state_684 : decode cL_state 684 = .ok (.goto (-33), 3) := by decide +kernel
theorem dL_state_687 : decode cL_state 687 = .ok (.aload_n 0, 1) := by decide +kernel
theorem dL_state_688 : decode cL_state 688 = .ok (.invokevirtual 226, 3) := by decide +kernel
theorem dL_state_691 : decode cL_state 691 = .ok (.ifCond .eq 40, 3) := by decide +kernel
theorem dL_state_694 : decode cL_state 694 = .ok (.aload_n 0, 1) := by decide +kernel
theorem dL_state_695 : decode cL_state 695 = .ok (.invokevirtual 230, 3) := by decide +kernel
theorem dL_state_698 : decode cL_state 698 = .ok (.dload 6, 2) := by decide +kernel
theorem dL_state_700 : decode cL_state 700 = .ok (.dconst 0, 1) := by decide +kernel
theorem dL_state_701 : decode cL_state 701 = .ok (.dcmp .l, 1) := by decide +kernel
theorem dL_state_702 : decode cL_state 702 = .ok (.ifCond .ne 7, 3) := by decide +kernel
theorem dL_state_705 : decode cL_state 705 = .ok (.dconst 1, 1) := by decide +kernel
theorem dL_state_706 : decode cL_state 706 = .ok (.goto 17, 3) := by decide +kernel
theorem dL_state_709 : decode cL_state 709 = .ok (.dload 4, 2) := by decide +kernel
theorem dL_state_711 : decode cL_state 711 = .ok (.dload 4, 2) := by decide +kernel
theorem dL_state_713 : decode cL_state 713 = .ok (.dmul, 1) := by decide +kernel
theorem dL_state_714 : decode cL_state 714 = .ok (.aload_n 1, 1) := by decide +kernel
theorem dL_state_715 : decode cL_state 715 = .ok (.getfield 84, 3) := by decide +kernel
theorem dL_state_718 : decode cL_state 718 = .ok (.i2d, 1) := by decide +kernel
theorem dL_state_719 : decode cL_state 719 = .ok (.dload 6, 2) := by decide +kernel
theorem dL_state_721 : decode cL_state 721 = .ok (.dmul, 1) := by decide +kernel
theorem dL_state_722 : decode cL_state 722 = .ok (.ddiv, 1) := by decide +kernel
theorem dL_state_723 : decode cL_state 723 = .ok (.dcmp .l, 1) := by decide +kernel
theorem dL_state_724 : decode cL_state 724 = .ok (.ifCond .ne 7, 3) := by decide +kernel
theorem dL_state_727 : decode cL_state 727 = .ok (.iconst 1, 1) := by decide +kernel
theorem dL_state_728 : decode cL_state 728 = .ok (.goto 4, 3) := by decide +kernel
theorem dL_state_731 : decode cL_state 731 = .ok (.iconst 0, 1) := by decide +kernel
theorem dL_state_732 : decode cL_state 732 = .ok (.ireturn, 1) := by decide +kernel
theorem dL_isSteady_0 : decode cL_isSteady 0 = .ok (.aload_n 1, 1) := by decide +kernel
theorem dL_isSteady_1 : decode cL_isSteady 1 = .ok (.aload_n 0, 1) := by decide +kernel
theorem dL_isSteady_2 : decode cL_isSteady 2 = .ok (.invokevirtual 234, 3) := by decide +kernel
theorem dL_isSteady_5 : decode cL_isSteady 5 = .ok (.invokevirtual 238, 3) := by decide +kernel
theorem dL_isSteady_8 : decode cL_isSteady 8 = .ok (.pop, 1) := by decide +kernel
theorem dL_isSteady_9 : decode cL_isSteady 9 = .ok (.aload_n 1, 1) := by decide +kernel
theorem dL_isSteady_10 : decode cL_isSteady 10 = .ok (.getfield 87, 3) := by decide +kernel
theorem dL_isSteady_13 : decode cL_isSteady 13 = .ok (.iload_n 2, 1) := by decide +kernel
theorem dL_isSteady_14 : decode cL_isSteady 14 = .ok (.aaload, 1) := by decide +kernel
theorem dL_isSteady_15 : decode cL_isSteady 15 = .ok (.getfield 152, 3) := by decide +kernel
theorem dL_isSteady_18 : decode cL_isSteady 18 = .ok (.iconst 3, 1) := by decide +kernel
theorem dL_isSteady_19 : decode cL_isSteady 19 = .ok (.if_icmp .ne 28, 3) := by decide +kernel
theorem dL_isSteady_22 : decode cL_isSteady 22 = .ok (.aload_n 1, 1) := by decide +kernel
theorem dL_isSteady_23 : decode cL_isSteady 23 = .ok (.getfield 87, 3) := by decide +kernel
theorem dL_isSteady_26 : decode cL_isSteady 26 = .ok (.iload_n 2, 1) := by decide +kernel
theorem dL_isSteady_27 : decode cL_isSteady 27 = .ok (.aaload, 1) := by decide +kernel
theorem dL_isSteady_28 : decode cL_isSteady 28 = .ok (.getfield 168, 3) := by decide +kernel
theorem dL_isSteady_31 : decode cL_isSteady 31 = .ok (.aload_n 0, 1) := by decide +kernel
theorem dL_isSteady_32 : decode cL_isSteady 32 = .ok (.getfield 87, 3) := by decide +kernel
theorem dL_isSteady_35 : decode cL_isSteady 35 = .ok (.iload_n 2, 1) := by decide +kernel
theorem dL_isSteady_36 : decode cL_isSteady 36 = .ok (.aaload, 1) := by decide +kernel
theorem dL_isSteady_37 : decode cL_isSteady 37 = .ok (.getfield 168, 3) := by decide +kernel
theorem dL_isSteady_40 : decode cL_isSteady 40 = .ok (.if_icmp .ne 7, 3) := by decide +kernel
theorem dL_isSteady_43 : decode cL_isSteady 43 = .ok (.iconst 1, 1) := by decide +kernel
theorem dL_isSteady_44 : decode cL_isSteady 44 = .ok (.goto 4, 3) := by decide +kernel
theorem dL_isSteady_47 : decode cL_isSteady 47 = .ok (.iconst 0, 1) := by decide +kernel
theorem dL_isSteady_48 : decode cL_isSteady 48 = .ok (.ireturn, 1) := by decide +kernel
theorem dL_asks_0 : decode cL_asks 0 = .ok (.aload_n 3, 1) := by decide +kernel
theorem dL_asks_1 : decode cL_asks 1 = .ok (.aload_n 1, 1) := by decide +kernel
theorem dL_asks_2 : decode cL_asks 2 = .ok (.getfield 84, 3) := by decide +kernel
theorem dL_asks_5 : decode cL_asks 5 = .ok (.invokestatic 35, 3) := by decide +kernel
theorem dL_asks_8 : decode cL_asks 8 = .ok (.istore 4, 2) := by decide +kernel
theorem dL_asks_10 : decode cL_asks 10 = .ok (.aload_n 1, 1) := by decide +kernel
theorem dL_asks_11 : decode cL_asks 11 = .ok (.getfield 87, 3) := by decide +kernel
theorem dL_asks_14 : decode cL_asks 14 = .ok (.iload 4, 2) := by decide +kernel
theorem dL_asks_16 : decode cL_asks 16 = .ok (.aaload, 1) := by decide +kernel
theorem dL_asks_17 : decode cL_asks 17 = .ok (.astore 5, 2) := by decide +kernel
theorem dL_asks_19 : decode cL_asks 19 = .ok (.aload 5, 2) := by decide +kernel
theorem dL_asks_21 : decode cL_asks 21 = .ok (.invokevirtual 242, 3) := by decide +kernel
theorem dL_asks_24 : decode cL_asks 24 = .ok (.ifCond .eq 7, 3) := by decide +kernel
theorem dL_asks_27 : decode cL_asks 27 = .ok (.iconst (-1), 1) := by decide +kernel
theorem dL_asks_28 : decode cL_asks 28 = .ok (.goto 9, 3) := by decide +kernel
theorem dL_asks_31 : decode cL_asks 31 = .ok (.aload_n 1, 1) := by decide +kernel
theorem dL_asks_32 : decode cL_asks 32 = .ok (.aload 5, 2) := by decide +kernel
theorem dL_asks_34 : decode cL_asks 34 = .ok (.invokevirtual 245, 3) := by decide +kernel
theorem dL_asks_37 : decode cL_asks 37 = .ok (.istore 6, 2) := by decide +kernel
theorem dL_asks_39 : decode cL_asks 39 = .ok (.aload_n 2, 1) := by decide +kernel
theorem dL_asks_40 : decode cL_asks 40 = .ok (.aload_n 1, 1) := by decide +kernel
theorem dL_asks_41 : decode cL_asks 41 = .ok (.invokevirtual 234, 3) := by decide +kernel
theorem dL_asks_44 : decode cL_asks 44 = .ok (.invokevirtual 249, 3) := by decide +kernel
theorem dL_asks_47 : decode cL_asks 47 = .ok (.aload_n 0, 1) := by decide +kernel
theorem dL_asks_48 : decode cL_asks 48 = .ok (.iload 4, 2) := by decide +kernel
theorem dL_asks_50 : decode cL_asks 50 = .ok (.invokevirtual 252, 3) := by decide +kernel
theorem dL_asks_53 : decode cL_asks 53 = .ok (.iload 6, 2) := by decide +kernel
theorem dL_asks_55 : decode cL_asks 55 = .ok (.if_icmp .ne 28, 3) := by decide +kernel
theorem dL_asks_58 : decode cL_asks 58 = .ok (.aload_n 0, 1) := by decide +kernel
theorem dL_asks_59 : decode cL_asks 59 = .ok (.iload 4, 2) := by decide +kernel
theorem dL_asks_61 : decode cL_asks 61 = .ok (.invokevirtual 255, 3) := by decide +kernel
theorem dL_asks_64 : decode cL_asks 64 = .ok (.aload_n 2, 1) := by decide +kernel
theorem dL_asks_65 : decode cL_asks 65 = .ok (.getfield 87, 3) := by decide +kernel
theorem dL_asks_68 : decode cL_asks 68 = .ok (.iload 4, 2) := by decide +kernel
theorem dL_asks_70 : decode cL_asks 70 = .ok (.aaload, 1) := by decide +kernel
theorem dL_asks_71 : decode cL_asks 71 = .ok (.getfield 180, 3) := by decide +kernel
theorem dL_asks_74 : decode cL_asks 74 = .ok (.aload 5, 2) := by decide +kernel
theorem dL_asks_76 : decode cL_asks 76 = .ok (.getfield 180, 3) := by decide +kernel
theorem dL_asks_79 : decode cL_asks 79 = .ok (.isub, 1) := by decide +kernel
theorem dL_asks_80 : decode cL_asks 80 = .ok (.if_icmp .eq 5, 3) := by decide +kernel
theorem dL_asks_83 : decode cL_asks 83 = .ok (.iconst 0, 1) := by decide +kernel
theorem dL_asks_84 : decode cL_asks 84 = .ok (.ireturn, 1) := by decide +kernel
theorem dL_asks_85 : decode cL_asks 85 = .ok (.aload_n 2, 1) := by decide +kernel
theorem dL_asks_86 : decode cL_asks 86 = .ok (.aload_n 1, 1) := by decide +kernel
theorem dL_asks_87 : decode cL_asks 87 = .ok (.invokevirtual 234, 3) := by decide +kernel
theorem dL_asks_90 : decode cL_asks 90 = .ok (.invokevirtual 238, 3) := by decide +kernel
theorem dL_asks_93 : decode cL_asks 93 = .ok (.pop, 1) := by decide +kernel
theorem dL_asks_94 : decode cL_asks 94 = .ok (.aload_n 2, 1) := by decide +kernel
theorem dL_asks_95 : decode cL_asks 95 = .ok (.getfield 87, 3) := by decide +kernel
theorem dL_asks_98 : decode cL_asks 98 = .ok (.iload 4, 2) := by decide +kernel
theorem dL_asks_100 : decode cL_asks 100 = .ok (.aaload, 1) := by decide +kernel
theorem dL_asks_101 : decode cL_asks 101 = .ok (.astore 7, 2) := by decide +kernel
theorem dL_asks_103 : decode cL_asks 103 = .ok (.bipush 6, 2) := by decide +kernel
theorem dL_asks_105 : decode cL_asks 105 = .ok (.newarray .int, 2) := by decide +kernel
theorem dL_asks_107 : decode cL_asks 107 = .ok (.dup, 1) := by decide +kernel
theorem dL_asks_108 : decode cL_asks 108 = .ok (.iconst 0, 1) := by decide +kernel
theorem dL_asks_109 : decode cL_asks 109 = .ok (.aload 7, 2) := by decide +kernel
theorem dL_asks_111 : decode cL_asks 111 = .ok (.getfield 168, 3) := by decide +kernel
theorem dL_asks_114 : decode cL_asks 114 = .ok (.iastore, 1) := by decide +kernel
theorem dL_asks_115 : decode cL_asks 115 = .ok (.dup, 1) := by decide +kernel
theorem dL_asks_116 : decode cL_asks 116 = .ok (.iconst 1, 1) := by decide +kernel
theorem dL_asks_117 : decode cL_asks 117 = .ok (.aload 7, 2) := by decide +kernel
theorem dL_asks_119 : decode cL_asks 119 = .ok (.getfield 171, 3) := by decide +kernel
theorem dL_asks_122 : decode cL_asks 122 = .ok (.iastore, 1) := by decide +kernel
theorem dL_asks_123 : decode cL_asks 123 = .ok (.dup, 1) := by decide +kernel
theorem dL_asks_124 : decode cL_asks 124 = .ok (.iconst 2, 1) := by decide +kernel
theorem dL_asks_125 : decode cL_asks 125 = .ok (.aload 7, 2) := by decide +kernel
theorem dL_asks_127 : decode cL_asks 127 = .ok (.getfield 174, 3) := by decide +kernel
theorem dL_asks_130 : decode cL_asks 130 = .ok (.iastore, 1) := by decide +kernel
theorem dL_asks_131 : decode cL_asks 131 = .ok (.dup, 1) := by decide +kernel
theorem dL_asks_132 : decode cL_asks 132 = .ok (.iconst 3, 1) := by decide +kernel
theorem dL_asks_133 : decode cL_asks 133 = .ok (.aload 7, 2) := by decide +kernel
theorem dL_asks_135 : decode cL_asks 135 = .ok (.getfield 177, 3) := by decide +kernel
theorem dL_asks_138 : decode cL_asks 138 = .ok (.iastore, 1) := by decide +kernel
theorem dL_asks_139 : decode cL_asks 139 = .ok (.dup, 1) := by decide +kernel
theorem dL_asks_140 : decode cL_asks 140 = .ok (.iconst 4, 1) := by decide +kernel
theorem dL_asks_141 : decode cL_asks 141 = .ok (.aload 7, 2) := by decide +kernel
theorem dL_asks_143 : decode cL_asks 143 = .ok (.getfield 159, 3) := by decide +kernel
theorem dL_asks_146 : decode cL_asks 146 = .ok (.iastore, 1) := by decide +kernel
theorem dL_asks_147 : decode cL_asks 147 = .ok (.dup, 1) := by decide +kernel
theorem dL_asks_148 : decode cL_asks 148 = .ok (.iconst 5, 1) := by decide +kernel
theorem dL_asks_149 : decode cL_asks 149 = .ok (.aload_n 2, 1) := by decide +kernel
theorem dL_asks_150 : decode cL_asks 150 = .ok (.getfield 210, 3) := by decide +kernel
theorem dL_asks_153 : decode cL_asks 153 = .ok (.iastore, 1) := by decide +kernel
theorem dL_asks_154 : decode cL_asks 154 = .ok (.astore 8, 2) := by decide +kernel
theorem dL_asks_156 : decode cL_asks 156 = .ok (.iconst 0, 1) := by decide +kernel
theorem dL_asks_157 : decode cL_asks 157 = .ok (.istore 9, 2) := by decide +kernel
theorem dL_asks_159 : decode cL_asks 159 = .ok (.iload 9, 2) := by decide +kernel
theorem dL_asks_161 : decode cL_asks 161 = .ok (.bipush 6, 2) := by decide +kernel
theorem dL_asks_163 : decode cL_asks 163 = .ok (.if_icmp .ge 27, 3) := by decide +kernel
theorem dL_asks_166 : decode cL_asks 166 = .ok (.aload_n 0, 1) := by decide +kernel
theorem dL_asks_167 : decode cL_asks 167 = .ok (.iload 4, 2) := by decide +kernel
theorem dL_asks_169 : decode cL_asks 169 = .ok (.iload 9, 2) := by decide +kernel
theorem dL_asks_171 : decode cL_asks 171 = .ok (.invokevirtual 258, 3) := by decide +kernel
theorem dL_asks_174 : decode cL_asks 174 = .ok (.aload 8, 2) := by decide +kernel
theorem dL_asks_176 : decode cL_asks 176 = .ok (.iload 9, 2) := by decide +kernel
theorem dL_asks_178 : decode cL_asks 178 = .ok (.iaload, 1) := by decide +kernel
theorem dL_asks_179 : decode cL_asks 179 = .ok (.if_icmp .eq 5, 3) := by decide +kernel
theorem dL_asks_182 : decode cL_asks 182 = .ok (.iconst 0, 1) := by decide +kernel
theorem dL_asks_183 : decode cL_asks 183 = .ok (.ireturn, 1) := by decide +kernel
theorem dL_asks_184 : decode cL_asks 184 = .ok (.iinc 9 1, 3) := by decide +kernel
theorem dL_asks_187 : decode cL_asks 187 = .ok (.goto (-28), 3) := by decide +kernel
theorem dL_asks_190 : decode cL_asks 190 = .ok (.aload_n 3, 1) := by decide +kernel
theorem dL_asks_191 : decode cL_asks 191 = .ok (.iconst 3, 1) := by decide +kernel
theorem dL_asks_192 : decode cL_asks 192 = .ok (.invokestatic 35, 3) := by decide +kernel
theorem dL_asks_195 : decode cL_asks 195 = .ok (.ifCond .le 5, 3) := by decide +kernel
theorem dL_asks_198 : decode cL_asks 198 = .ok (.iconst 1, 1) := by decide +kernel
theorem dL_asks_199 : decode cL_asks 199 = .ok (.ireturn, 1) := by decide +kernel
theorem dL_asks_200 : decode cL_asks 200 = .ok (.aload 5, 2) := by decide +kernel
theorem dL_asks_202 : decode cL_asks 202 = .ok (.invokevirtual 242, 3) := by decide +kernel
theorem dL_asks_205 : decode cL_asks 205 = .ok (.ifCond .eq 41, 3) := by decide +kernel
theorem dL_asks_208 : decode cL_asks 208 = .ok (.aload_n 0, 1) := by decide +kernel
theorem dL_asks_209 : decode cL_asks 209 = .ok (.iload 4, 2) := by decide +kernel
theorem dL_asks_211 : decode cL_asks 211 = .ok (.invokevirtual 261, 3) := by decide +kernel
theorem dL_asks_214 : decode cL_asks 214 = .ok (.iconst (-1), 1) := by decide +kernel
theorem dL_asks_215 : decode cL_asks 215 = .ok (.if_icmp .ne 27, 3) := by decide +kernel
theorem dL_asks_218 : decode cL_asks 218 = .ok (.aload_n 0, 1) := by decide +kernel
theorem dL_asks_219 : decode cL_asks 219 = .ok (.iload 4, 2) := by decide +kernel
theorem dL_asks_221 : decode cL_asks 221 = .ok (.iconst 0, 1) := by decide +kernel
theorem dL_asks_222 : decode cL_asks 222 = .ok (.invokevirtual 264, 3) := by decide +kernel
theorem dL_asks_225 : decode cL_asks 225 = .ok (.iconst (-1), 1) := by decide +kernel
theorem dL_asks_226 : decode cL_asks 226 = .ok (.if_icmp .ne 16, 3) := by decide +kernel
theorem dL_asks_229 : decode cL_asks 229 = .ok (.aload_n 0, 1) := by decide +kernel
theorem dL_asks_230 : decode cL_asks 230 = .ok (.iload 4, 2) := by decide +kernel
theorem dL_asks_232 : decode cL_asks 232 = .ok (.invokevirtual 267, 3) := by decide +kernel
theorem dL_asks_235 : decode cL_asks 235 = .ok (.ifCond .ne 7, 3) := by decide +kernel
theorem dL_asks_238 : decode cL_asks 238 = .ok (.iconst 1, 1) := by decide +kernel
theorem dL_asks_239 : decode cL_asks 239 = .ok (.goto 20, 3) := by decide +kernel
theorem dL_asks_242 : decode cL_asks 242 = .ok (.iconst 0, 1) := by decide +kernel
theorem dL_asks_243 : decode cL_asks 243 = .ok (.goto 16, 3) := by decide +kernel
theorem dL_asks_246 : decode cL_asks 246 = .ok (.aload_n 0, 1) := by decide +kernel
theorem dL_asks_247 : decode cL_asks 247 = .ok (.aload_n 1, 1) := by decide +kernel
theorem dL_asks_248 : decode cL_asks 248 = .ok (.aload_n 2, 1) := by decide +kernel
theorem dL_asks_249 : decode cL_asks 249 = .ok (.iload 4, 2) := by decide +kernel
theorem dL_asks_251 : decode cL_asks 251 = .ok (.aload 7, 2) := by decide +kernel
theorem dL_asks_253 : decode cL_asks 253 = .ok (.getfield 177, 3) := by decide +kernel
theorem dL_asks_256 : decode cL_asks 256 = .ok (.invokestatic 270, 3) := by decide +kernel
theorem dL_asks_259 : decode cL_asks 259 = .ok (.ireturn, 1) := by decide +kernel
theorem dL_leads_0 : decode cL_leads 0 = .ok (.aload_n 1, 1) := by decide +kernel
theorem dL_leads_1 : decode cL_leads 1 = .ok (.getfield 87, 3) := by decide +kernel
theorem dL_leads_4 : decode cL_leads 4 = .ok (.iload_n 3, 1) := by decide +kernel
theorem dL_leads_5 : decode cL_leads 5 = .ok (.aaload, 1) := by decide +kernel
theorem dL_leads_6 : decode cL_leads 6 = .ok (.astore 5, 2) := by decide +kernel
theorem dL_leads_8 : decode cL_leads 8 = .ok (.aload 5, 2) := by decide +kernel
theorem dL_leads_10 : decode cL_leads 10 = .ok (.getfield 102, 3) := by decide +kernel
theorem dL_leads_13 : decode cL_leads 13 = .ok (.istore 6, 2) := by decide +kernel
theorem dL_leads_15 : decode cL_leads 15 = .ok (.iconst 0, 1) := by decide +kernel
theorem dL_leads_16 : decode cL_leads 16 = .ok (.istore 7, 2) := by decide +kernel
theorem dL_leads_18 : decode cL_leads 18 = .ok (.iload 7, 2) := by decide +kernel
theorem dL_leads_20 : decode cL_leads 20 = .ok (.ifCond .ne 55, 3) := by decide +kernel
theorem dL_leads_23 : decode cL_leads 23 = .ok (.iload 6, 2) := by decide +kernel
theorem dL_leads_25 : decode cL_leads 25 = .ok (.ifCond .le 50, 3) := by decide +kernel
theorem dL_leads_28 : decode cL_leads 28 = .ok (.iinc 6 (-1), 3) := by decide +kernel
theorem dL_leads_31 : decode cL_leads 31 = .ok (.aload 5, 2) := by decide +kernel
theorem dL_leads_33 : decode cL_leads 33 = .ok (.invokevirtual 274, 3) := by decide +kernel
theorem dL_leads_36 : decode cL_leads 36 = .ok (.istore 8, 2) := by decide +kernel
theorem dL_leads_38 : decode cL_leads 38 = .ok (.iload 8, 2) := by decide +kernel
theorem dL_leads_40 : decode cL_leads 40 = .ok (.aload 5, 2) := by decide +kernel
theorem dL_leads_42 : decode cL_leads 42 = .ok (.getfield 96, 3) := by decide +kernel
theorem dL_leads_45 : decode cL_leads 45 = .ok (.if_icmp .ge 19, 3) := by decide +kernel
theorem dL_leads_48 : decode cL_leads 48 = .ok (.aload 5, 2) := by decide +kernel
theorem dL_leads_50 : decode cL_leads 50 = .ok (.getfield 277, 3) := by decide +kernel
theorem dL_leads_53 : decode cL_leads 53 = .ok (.iload 8, 2) := by decide +kernel
theorem dL_leads_55 : decode cL_leads 55 = .ok (.iload 6, 2) := by decide +kernel
theorem dL_leads_57 : decode cL_leads 57 = .ok (.iastore, 1) := by decide +kernel
theorem dL_leads_58 : decode cL_leads 58 = .ok (.iinc 8 1, 3) := by decide +kernel
theorem dL_leads_61 : decode cL_leads 61 = .ok (.goto (-23), 3) := by decide +kernel
theorem dL_leads_64 : decode cL_leads 64 = .ok (.aload_n 1, 1) := by decide +kernel
theorem dL_leads_65 : decode cL_leads 65 = .ok (.aload_n 2, 1) := by decide +kernel
theorem dL_leads_66 : decode cL_leads 66 = .ok (.iload_n 3, 1) := by decide +kernel
theorem dL_leads_67 : decode cL_leads 67 = .ok (.invokestatic 280, 3) := by decide +kernel
theorem dL_leads_70 : decode cL_leads 70 = .ok (.istore 7, 2) := by decide +kernel
theorem dL_leads_72 : decode cL_leads 72 = .ok (.goto (-54), 3) := by decide +kernel
theorem dL_leads_75 : decode cL_leads 75 = .ok (.aload 5, 2) := by decide +kernel
theorem dL_leads_77 : decode cL_leads 77 = .ok (.invokevirtual 274, 3) := by decide +kernel
theorem dL_leads_80 : decode cL_leads 80 = .ok (.istore 8, 2) := by decide +kernel
theorem dL_leads_82 : decode cL_leads 82 = .ok (.iload 8, 2) := by decide +kernel
theorem dL_leads_84 : decode cL_leads 84 = .ok (.aload 5, 2) := by decide +kernel
theorem dL_leads_86 : decode cL_leads 86 = .ok (.getfield 96, 3) := by decide +kernel
theorem dL_leads_89 : decode cL_leads 89 = .ok (.if_icmp .ge 18, 3) := by decide +kernel
theorem dL_leads_92 : decode cL_leads 92 = .ok (.aload 5, 2) := by decide +kernel
theorem dL_leads_94 : decode cL_leads 94 = .ok (.getfield 277, 3) := by decide +kernel
theorem dL_leads_97 : decode cL_leads 97 = .ok (.iload 8, 2) := by decide +kernel
theorem dL_leads_99 : decode cL_leads 99 = .ok (.iconst 0, 1) := by decide +kernel
theorem dL_leads_100 : decode cL_leads 100 = .ok (.iastore, 1) := by decide +kernel
theorem dL_leads_101 : decode cL_leads 101 = .ok (.iinc 8 1, 3) := by decide +kernel
theorem dL_leads_104 : decode cL_leads 104 = .ok (.goto (-22), 3) := by decide +kernel
theorem dL_leads_107 : decode cL_leads 107 = .ok (.aload 5, 2) := by decide +kernel
theorem dL_leads_109 : decode cL_leads 109 = .ok (.invokevirtual 274, 3) := by decide +kernel
theorem dL_leads_112 : decode cL_leads 112 = .ok (.istore 8, 2) := by decide +kernel
theorem dL_leads_114 : decode cL_leads 114 = .ok (.iload 8, 2) := by decide +kernel
theorem dL_leads_116 : decode cL_leads 116 = .ok (.aload 5, 2) := by decide +kernel
theorem dL_leads_118 : decode cL_leads 118 = .ok (.getfield 96, 3) := by decide +kernel
theorem dL_leads_121 : decode cL_leads 121 = .ok (.if_icmp .ge 59, 3) := by decide +kernel
theorem dL_leads_124 : decode cL_leads 124 = .ok (.aload 5, 2) := by decide +kernel
theorem dL_leads_126 : decode cL_leads 126 = .ok (.getfield 277, 3) := by decide +kernel
theorem dL_leads_129 : decode cL_leads 129 = .ok (.iload 8, 2) := by decide +kernel
theorem dL_leads_131 : decode cL_leads 131 = .ok (.aload 5, 2) := by decide +kernel
theorem dL_leads_133 : decode cL_leads 133 = .ok (.getfield 102, 3) := by decide +kernel
theorem dL_leads_136 : decode cL_leads 136 = .ok (.iconst 1, 1) := by decide +kernel
theorem dL_leads_137 : decode cL_leads 137 = .ok (.isub, 1) := by decide +kernel
theorem dL_leads_138 : decode cL_leads 138 = .ok (.iastore, 1) := by decide +kernel
theorem dL_leads_139 : decode cL_leads 139 = .ok (.aload 5, 2) := by decide +kernel
theorem dL_leads_141 : decode cL_leads 141 = .ok (.getfield 277, 3) := by decide +kernel
theorem dL_leads_144 : decode cL_leads 144 = .ok (.iload 8, 2) := by decide +kernel
theorem dL_leads_146 : decode cL_leads 146 = .ok (.iaload, 1) := by decide +kernel
theorem dL_leads_147 : decode cL_leads 147 = .ok (.ifCond .le 27, 3) := by decide +kernel
theorem dL_leads_150 : decode cL_leads 150 = .ok (.aload_n 1, 1) := by decide +kernel
theorem dL_leads_151 : decode cL_leads 151 = .ok (.aload_n 2, 1) := by decide +kernel
theorem dL_leads_152 : decode cL_leads 152 = .ok (.iload_n 3, 1) := by decide +kernel
theorem dL_leads_153 : decode cL_leads 153 = .ok (.invokestatic 280, 3) := by decide +kernel
theorem dL_leads_156 : decode cL_leads 156 = .ok (.ifCond .ne 18, 3) := by decide +kernel
theorem dL_leads_159 : decode cL_leads 159 = .ok (.aload 5, 2) := by decide +kernel
theorem dL_leads_161 : decode cL_leads 161 = .ok (.getfield 277, 3) := by decide +kernel
theorem dL_leads_164 : decode cL_leads 164 = .ok (.iload 8, 2) := by decide +kernel
theorem dL_leads_166 : decode cL_leads 166 = .ok (.dup2, 1) := by decide +kernel
theorem dL_leads_167 : decode cL_leads 167 = .ok (.iaload, 1) := by decide +kernel
theorem dL_leads_168 : decode cL_leads 168 = .ok (.iconst 1, 1) := by decide +kernel
theorem dL_leads_169 : decode cL_leads 169 = .ok (.isub, 1) := by decide +kernel
theorem dL_leads_170 : decode cL_leads 170 = .ok (.iastore, 1) := by decide +kernel
theorem dL_leads_171 : decode cL_leads 171 = .ok (.goto (-32), 3) := by decide +kernel
theorem dL_leads_174 : decode cL_leads 174 = .ok (.iinc 8 1, 3) := by decide +kernel
theorem dL_leads_177 : decode cL_leads 177 = .ok (.goto (-63), 3) := by decide +kernel
theorem dL_leads_180 : decode cL_leads 180 = .ok (.aload_n 0, 1) := by decide +kernel
theorem dL_leads_181 : decode cL_leads 181 = .ok (.iload_n 3, 1) := by decide +kernel
theorem dL_leads_182 : decode cL_leads 182 = .ok (.invokevirtual 261, 3) := by decide +kernel
theorem dL_leads_185 : decode cL_leads 185 = .ok (.iload 7, 2) := by decide +kernel
theorem dL_leads_187 : decode cL_leads 187 = .ok (.ifCond .eq 8, 3) := by decide +kernel
theorem dL_leads_190 : decode cL_leads 190 = .ok (.iload 6, 2) := by decide +kernel
theorem dL_leads_192 : decode cL_leads 192 = .ok (.goto 4, 3) := by decide +kernel
theorem dL_leads_195 : decode cL_leads 195 = .ok (.iconst (-1), 1) := by decide +kernel
theorem dL_leads_196 : decode cL_leads 196 = .ok (.if_icmp .ne 34, 3) := by decide +kernel
theorem dL_leads_199 : decode cL_leads 199 = .ok (.aload_n 0, 1) := by decide +kernel
theorem dL_leads_200 : decode cL_leads 200 = .ok (.iload_n 3, 1) := by decide +kernel
theorem dL_leads_201 : decode cL_leads 201 = .ok (.invokevirtual 267, 3) := by decide +kernel
theorem dL_leads_204 : decode cL_leads 204 = .ok (.aload_n 2, 1) := by decide +kernel
theorem dL_leads_205 : decode cL_leads 205 = .ok (.aload_n 1, 1) := by decide +kernel
theorem dL_leads_206 : decode cL_leads 206 = .ok (.invokevirtual 234, 3) := by decide +kernel
theorem dL_leads_209 : decode cL_leads 209 = .ok (.invokevirtual 238, 3) := by decide +kernel
theorem dL_leads_212 : decode cL_leads 212 = .ok (.getfield 87, 3) := by decide +kernel
theorem dL_leads_215 : decode cL_leads 215 = .ok (.iload_n 3, 1) := by decide +kernel
theorem dL_leads_216 : decode cL_leads 216 = .ok (.aaload, 1) := by decide +kernel
theorem dL_leads_217 : decode cL_leads 217 = .ok (.getfield 177, 3) := by decide +kernel
theorem dL_leads_220 : decode cL_leads 220 = .ok (.iload 4, 2) := by decide +kernel
theorem dL_leads_222 : decode cL_leads 222 = .ok (.isub, 1) := by decide +kernel
theorem dL_leads_223 : decode cL_leads 223 = .ok (.if_icmp .ne 7, 3) := by decide +kernel
theorem dL_leads_226 : decode cL_leads 226 = .ok (.iconst 1, 1) := by decide +kernel
theorem dL_leads_227 : decode cL_leads 227 = .ok (.goto 4, 3) := by decide +kernel
theorem dL_leads_230 : decode cL_leads 230 = .ok (.iconst 0, 1) := by decide +kernel
theorem dL_leads_231 : decode cL_leads 231 = .ok (.istore 8, 2) := by decide +kernel
theorem dL_leads_233 : decode cL_leads 233 = .ok (.aload 5, 2) := by decide +kernel
theorem dL_leads_235 : decode cL_leads 235 = .ok (.invokevirtual 274, 3) := by decide +kernel
theorem dL_leads_238 : decode cL_leads 238 = .ok (.istore 9, 2) := by decide +kernel
theorem dL_leads_240 : decode cL_leads 240 = .ok (.iload 9, 2) := by decide +kernel
theorem dL_leads_242 : decode cL_leads 242 = .ok (.aload 5, 2) := by decide +kernel
theorem dL_leads_244 : decode cL_leads 244 = .ok (.getfield 96, 3) := by decide +kernel
theorem dL_leads_247 : decode cL_leads 247 = .ok (.if_icmp .ge 54, 3) := by decide +kernel
theorem dL_leads_250 : decode cL_leads 250 = .ok (.iload 8, 2) := by decide +kernel
theorem dL_leads_252 : decode cL_leads 252 = .ok (.ifCond .eq 31, 3) := by decide +kernel
theorem dL_leads_255 : decode cL_leads 255 = .ok (.aload_n 0, 1) := by decide +kernel
theorem dL_leads_256 : decode cL_leads 256 = .ok (.iload_n 3, 1) := by decide +kernel
theorem dL_leads_257 : decode cL_leads 257 = .ok (.iload 9, 2) := by decide +kernel
theorem dL_leads_259 : decode cL_leads 259 = .ok (.aload 5, 2) := by decide +kernel
theorem dL_leads_261 : decode cL_leads 261 = .ok (.invokevirtual 274, 3) := by decide +kernel
theorem dL_leads_264 : decode cL_leads 264 = .ok (.isub, 1) := by decide +kernel
theorem dL_leads_265 : decode cL_leads 265 = .ok (.invokevirtual 264, 3) := by decide +kernel
theorem dL_leads_268 : decode cL_leads 268 = .ok (.aload 5, 2) := by decide +kernel
theorem dL_leads_270 : decode cL_leads 270 = .ok (.getfield 277, 3) := by decide +kernel
theorem dL_leads_273 : decode cL_leads 273 = .ok (.iload 9, 2) := by decide +kernel
theorem dL_leads_275 : decode cL_leads 275 = .ok (.iaload, 1) := by decide +kernel
theorem dL_leads_276 : decode cL_leads 276 = .ok (.if_icmp .ne 7, 3) := by decide +kernel
theorem dL_leads_279 : decode cL_leads 279 = .ok (.iconst 1, 1) := by decide +kernel
theorem dL_leads_280 : decode cL_leads 280 = .ok (.goto 4, 3) := by decide +kernel
theorem dL_leads_283 : decode cL_leads 283 = .ok (.iconst 0, 1) := by decide +kernel
theorem dL_leads_284 : decode cL_leads 284 = .ok (.istore 8, 2) := by decide +kernel
theorem dL_leads_286 : decode cL_leads 286 = .ok (.aload 5, 2) := by decide +kernel
theorem dL_leads_288 : decode cL_leads 288 = .ok (.getfield 277, 3) := by decide +kernel
theorem dL_leads_291 : decode cL_leads 291 = .ok (.iload 9, 2) := by decide +kernel
theorem dL_leads_293 : decode cL_leads 293 = .ok (.iconst (-1), 1) := by decide +kernel
theorem dL_leads_294 : decode cL_leads 294 = .ok (.iastore, 1) := by decide +kernel
theorem dL_leads_295 : decode cL_leads 295 = .ok (.iinc 9 1, 3) := by decide +kernel
theorem dL_leads_298 : decode cL_leads 298 = .ok (.goto (-58), 3) := by decide +kernel
theorem dL_leads_301 : decode cL_leads 301 = .ok (.iload 8, 2) := by decide +kernel
theorem dL_leads_303 : decode cL_leads 303 = .ok (.ifCond .eq 27, 3) := by decide +kernel
theorem dL_leads_306 : decode cL_leads 306 = .ok (.aload_n 0, 1) := by decide +kernel
theorem dL_leads_307 : decode cL_leads 307 = .ok (.iload_n 3, 1) := by decide +kernel
theorem dL_leads_308 : decode cL_leads 308 = .ok (.aload 5, 2) := by decide +kernel
theorem dL_leads_310 : decode cL_leads 310 = .ok (.getfield 96, 3) := by decide +kernel
theorem dL_leads_313 : decode cL_leads 313 = .ok (.aload 5, 2) := by decide +kernel
theorem dL_leads_315 : decode cL_leads 315 = .ok (.invokevirtual 274, 3) := by decide +kernel
theorem dL_leads_318 : decode cL_leads 318 = .ok (.isub, 1) := by decide +kernel
theorem dL_leads_319 : decode cL_leads 319 = .ok (.invokevirtual 264, 3) := by decide +kernel
theorem dL_leads_322 : decode cL_leads 322 = .ok (.iconst (-1), 1) := by decide +kernel
theorem dL_leads_323 : decode cL_leads 323 = .ok (.if_icmp .ne 7, 3) := by decide +kernel
theorem dL_leads_326 : decode cL_leads 326 = .ok (.iconst 1, 1) := by decide +kernel
theorem dL_leads_327 : decode cL_leads 327 = .ok (.goto 4, 3) := by decide +kernel
theorem dL_leads_330 : decode cL_leads 330 = .ok (.iconst 0, 1) := by decide +kernel
theorem dL_leads_331 : decode cL_leads 331 = .ok (.ireturn, 1) := by decide +kernel
theorem dL_changes_0 : decode cL_changes 0 = .ok (.aload_n 2, 1) := by decide +kernel
theorem dL_changes_1 : decode cL_changes 1 = .ok (.aload_n 1, 1) := by decide +kernel
theorem dL_changes_2 : decode cL_changes 2 = .ok (.getfield 84, 3) := by decide +kernel
theorem dL_changes_5 : decode cL_changes 5 = .ok (.invokestatic 35, 3) := by decide +kernel
theorem dL_changes_8 : decode cL_changes 8 = .ok (.istore_n 3, 1) := by decide +kernel
theorem dL_changes_9 : decode cL_changes 9 = .ok (.aload_n 1, 1) := by decide +kernel
theorem dL_changes_10 : decode cL_changes 10 = .ok (.getfield 87, 3) := by decide +kernel
theorem dL_changes_13 : decode cL_changes 13 = .ok (.iload_n 3, 1) := by decide +kernel
theorem dL_changes_14 : decode cL_changes 14 = .ok (.aaload, 1) := by decide +kernel
theorem dL_changes_15 : decode cL_changes 15 = .ok (.astore 4, 2) := by decide +kernel
theorem dL_changes_17 : decode cL_changes 17 = .ok (.aload_n 2, 1) := by decide +kernel
theorem dL_changes_18 : decode cL_changes 18 = .ok (.bipush 8, 2) := by decide +kernel
theorem dL_changes_20 : decode cL_changes 20 = .ok (.invokestatic 35, 3) := by decide +kernel
theorem dL_changes_23 : decode cL_changes 23 = .ok (.tableswitch 247 0 3 #[29, 67, 108, 174], 29) := by decide +kernel
theorem dL_changes_52 : decode cL_changes 52 = .ok (.aload 4, 2) := by decide +kernel
theorem dL_changes_54 : decode cL_changes 54 = .ok (.getfield 91, 3) := by decide +kernel
theorem dL_changes_57 : decode cL_changes 57 = .ok (.istore 5, 2) := by decide +kernel
theorem dL_changes_59 : decode cL_changes 59 = .ok (.aload 4, 2) := by decide +kernel
theorem dL_changes_61 : decode cL_changes 61 = .ok (.aload_n 2, 1) := by decide +kernel
theorem dL_changes_62 : decode cL_changes 62 = .ok (.iconst 4, 1) := by decide +kernel
theorem dL_changes_63 : decode cL_changes 63 = .ok (.invokestatic 35, 3) := by decide +kernel
theorem dL_changes_66 : decode cL_changes 66 = .ok (.putfield 91, 3) := by decide +kernel
theorem dL_changes_69 : decode cL_changes 69 = .ok (.aload_n 0, 1) := by decide +kernel
theorem dL_changes_70 : decode cL_changes 70 = .ok (.iload_n 3, 1) := by decide +kernel
theorem dL_changes_71 : decode cL_changes 71 = .ok (.aload 4, 2) := by decide +kernel
theorem dL_changes_73 : decode cL_changes 73 = .ok (.getfield 91, 3) := by decide +kernel
theorem dL_changes_76 : decode cL_changes 76 = .ok (.invokevirtual 284, 3) := by decide +kernel
theorem dL_changes_79 : decode cL_changes 79 = .ok (.iload 5, 2) := by decide +kernel
theorem dL_changes_81 : decode cL_changes 81 = .ok (.if_icmp .ne 7, 3) := by decide +kernel
theorem dL_changes_84 : decode cL_changes 84 = .ok (.iconst 1, 1) := by decide +kernel
theorem dL_changes_85 : decode cL_changes 85 = .ok (.goto 4, 3) := by decide +kernel
theorem dL_changes_88 : decode cL_changes 88 = .ok (.iconst 0, 1) := by decide +kernel
theorem dL_changes_89 : decode cL_changes 89 = .ok (.ireturn, 1) := by decide +kernel
theorem dL_changes_90 : decode cL_changes 90 = .ok (.aload 4, 2) := by decide +kernel
theorem dL_changes_92 : decode cL_changes 92 = .ok (.getfield 99, 3) := by decide +kernel
theorem dL_changes_95 : decode cL_changes 95 = .ok (.istore 5, 2) := by decide +kernel
theorem dL_changes_97 : decode cL_changes 97 = .ok (.aload 4, 2) := by decide +kernel
theorem dL_changes_99 : decode cL_changes 99 = .ok (.iconst 1, 1) := by decide +kernel
theorem dL_changes_100 : decode cL_changes 100 = .ok (.aload_n 2, 1) := by decide +kernel
theorem dL_changes_101 : decode cL_changes 101 = .ok (.bipush 9, 2) := by decide +kernel
theorem dL_changes_103 : decode cL_changes 103 = .ok (.invokestatic 35, 3) := by decide +kernel
theorem dL_changes_106 : decode cL_changes 106 = .ok (.iadd, 1) := by decide +kernel
theorem dL_changes_107 : decode cL_changes 107 = .ok (.putfield 99, 3) := by decide +kernel
theorem dL_changes_110 : decode cL_changes 110 = .ok (.aload_n 0, 1) := by decide +kernel
theorem dL_changes_111 : decode cL_changes 111 = .ok (.iload_n 3, 1) := by decide +kernel
theorem dL_changes_112 : decode cL_changes 112 = .ok (.aload 4, 2) := by decide +kernel
theorem dL_changes_114 : decode cL_changes 114 = .ok (.getfield 99, 3) := by decide +kernel
theorem dL_changes_117 : decode cL_changes 117 = .ok (.invokevirtual 287, 3) := by decide +kernel
theorem dL_changes_120 : decode cL_changes 120 = .ok (.iload 5, 2) := by decide +kernel
theorem dL_changes_122 : decode cL_changes 122 = .ok (.if_icmp .ne 7, 3) := by decide +kernel
theorem dL_changes_125 : decode cL_changes 125 = .ok (.iconst 1, 1) := by decide +kernel
theorem dL_changes_126 : decode cL_changes 126 = .ok (.goto 4, 3) := by decide +kernel
theorem dL_changes_129 : decode cL_changes 129 = .ok (.iconst 0, 1) := by decide +kernel
theorem dL_changes_130 : decode cL_changes 130 = .ok (.ireturn, 1) := by decide +kernel
theorem dL_changes_131 : decode cL_changes 131 = .ok (.aload_n 1, 1) := by decide +kernel
theorem dL_changes_132 : decode cL_changes 132 = .ok (.getfield 64, 3) := by decide +kernel
theorem dL_changes_135 : decode cL_changes 135 = .ok (.ifCond .ne 5, 3) := by decide +kernel
theorem dL_changes_138 : decode cL_changes 138 = .ok (.iconst 1, 1) := by decide +kernel
theorem dL_changes_139 : decode cL_changes 139 = .ok (.ireturn, 1) := by decide +kernel
theorem dL_changes_140 : decode cL_changes 140 = .ok (.aload_n 2, 1) := by decide +kernel
theorem dL_changes_141 : decode cL_changes 141 = .ok (.aload_n 1, 1) := by decide +kernel
theorem dL_changes_142 : decode cL_changes 142 = .ok (.getfield 64, 3) := by decide +kernel
theorem dL_changes_145 : decode cL_changes 145 = .ok (.invokestatic 35, 3) := by decide +kernel
theorem dL_changes_148 : decode cL_changes 148 = .ok (.istore 5, 2) := by decide +kernel
theorem dL_changes_150 : decode cL_changes 150 = .ok (.aload_n 1, 1) := by decide +kernel
theorem dL_changes_151 : decode cL_changes 151 = .ok (.getfield 71, 3) := by decide +kernel
theorem dL_changes_154 : decode cL_changes 154 = .ok (.iload 5, 2) := by decide +kernel
theorem dL_changes_156 : decode cL_changes 156 = .ok (.iaload, 1) := by decide +kernel
theorem dL_changes_157 : decode cL_changes 157 = .ok (.istore 6, 2) := by decide +kernel
theorem dL_changes_159 : decode cL_changes 159 = .ok (.aload_n 1, 1) := by decide +kernel
theorem dL_changes_160 : decode cL_changes 160 = .ok (.getfield 71, 3) := by decide +kernel
theorem dL_changes_163 : decode cL_changes 163 = .ok (.iload 5, 2) := by decide +kernel
theorem dL_changes_165 : decode cL_changes 165 = .ok (.aload_n 2, 1) := by decide +kernel
theorem dL_changes_166 : decode cL_changes 166 = .ok (.sipush 200, 3) := by decide +kernel
theorem dL_changes_169 : decode cL_changes 169 = .ok (.invokestatic 35, 3) := by decide +kernel
theorem dL_changes_172 : decode cL_changes 172 = .ok (.iastore, 1) := by decide +kernel
theorem dL_changes_173 : decode cL_changes 173 = .ok (.aload_n 0, 1) := by decide +kernel
theorem dL_changes_174 : decode cL_changes 174 = .ok (.iload 5, 2) := by decide +kernel
theorem dL_changes_176 : decode cL_changes 176 = .ok (.aload_n 1, 1) := by decide +kernel
theorem dL_changes_177 : decode cL_changes 177 = .ok (.getfield 71, 3) := by decide +kernel
theorem dL_changes_180 : decode cL_changes 180 = .ok (.iload 5, 2) := by decide +kernel
theorem dL_changes_182 : decode cL_changes 182 = .ok (.iaload, 1) := by decide +kernel
theorem dL_changes_183 : decode cL_changes 183 = .ok (.invokevirtual 290, 3) := by decide +kernel
theorem dL_changes_186 : decode cL_changes 186 = .ok (.iload 6, 2) := by decide +kernel
theorem dL_changes_188 : decode cL_changes 188 = .ok (.if_icmp .ne 7, 3) := by decide +kernel
theorem dL_changes_191 : decode cL_changes 191 = .ok (.iconst 1, 1) := by decide +kernel
theorem dL_changes_192 : decode cL_changes 192 = .ok (.goto 4, 3) := by decide +kernel
theorem dL_changes_195 : decode cL_changes 195 = .ok (.iconst 0, 1) := by decide +kernel
theorem dL_changes_196 : decode cL_changes 196 = .ok (.ireturn, 1) := by decide +kernel
theorem dL_changes_197 : decode cL_changes 197 = .ok (.aload 4, 2) := by decide +kernel
theorem dL_changes_199 : decode cL_changes 199 = .ok (.getfield 152, 3) := by decide +kernel
theorem dL_changes_202 : decode cL_changes 202 = .ok (.iconst 2, 1) := by decide +kernel
theorem dL_changes_203 : decode cL_changes 203 = .ok (.if_icmp .gt 11, 3) := by decide +kernel
theorem dL_changes_206 : decode cL_changes 206 = .ok (.aload_n 2, 1) := by decide +kernel
theorem dL_changes_207 : decode cL_changes 207 = .ok (.iconst 3, 1) := by decide +kernel
theorem dL_changes_208 : decode cL_changes 208 = .ok (.invokestatic 35, 3) := by decide +kernel
theorem dL_changes_211 : decode cL_changes 211 = .ok (.ifCond .le 5, 3) := by decide +kernel
theorem dL_changes_214 : decode cL_changes 214 = .ok (.iconst 1, 1) := by decide +kernel
theorem dL_changes_215 : decode cL_changes 215 = .ok (.ireturn, 1) := by decide +kernel
theorem dL_changes_216 : decode cL_changes 216 = .ok (.aload 4, 2) := by decide +kernel
theorem dL_changes_218 : decode cL_changes 218 = .ok (.iconst 4, 1) := by decide +kernel
theorem dL_changes_219 : decode cL_changes 219 = .ok (.putfield 152, 3) := by decide +kernel
theorem dL_changes_222 : decode cL_changes 222 = .ok (.aload_n 0, 1) := by decide +kernel
theorem dL_changes_223 : decode cL_changes 223 = .ok (.iload_n 3, 1) := by decide +kernel
theorem dL_changes_224 : decode cL_changes 224 = .ok (.invokevirtual 293, 3) := by decide +kernel
theorem dL_changes_227 : decode cL_changes 227 = .ok (.aload 4, 2) := by decide +kernel
theorem dL_changes_229 : decode cL_changes 229 = .ok (.getfield 154, 3) := by decide +kernel
theorem dL_changes_232 : decode cL_changes 232 = .ok (.ifCond .ge 7, 3) := by decide +kernel
theorem dL_changes_235 : decode cL_changes 235 = .ok (.iconst 0, 1) := by decide +kernel
theorem dL_changes_236 : decode cL_changes 236 = .ok (.goto 25, 3) := by decide +kernel
theorem dL_changes_239 : decode cL_changes 239 = .ok (.aload_n 1, 1) := by decide +kernel
theorem dL_changes_240 : decode cL_changes 240 = .ok (.aload 4, 2) := by decide +kernel
theorem dL_changes_242 : decode cL_changes 242 = .ok (.aload 4, 2) := by decide +kernel
theorem dL_changes_244 : decode cL_changes 244 = .ok (.getfield 159, 3) := by decide +kernel
theorem dL_changes_247 : decode cL_changes 247 = .ok (.aload 4, 2) := by decide +kernel
theorem dL_changes_249 : decode cL_changes 249 = .ok (.getfield 154, 3) := by decide +kernel
theorem dL_changes_252 : decode cL_changes 252 = .ok (.invokevirtual 196, 3) := by decide +kernel
theorem dL_changes_255 : decode cL_changes 255 = .ok (.aload 4, 2) := by decide +kernel
theorem dL_changes_257 : decode cL_changes 257 = .ok (.getfield 162, 3) := by decide +kernel
theorem dL_changes_260 : decode cL_changes 260 = .ok (.isub, 1) := by decide +kernel
theorem dL_changes_261 : decode cL_changes 261 = .ok (.if_icmp .ne 7, 3) := by decide +kernel
theorem dL_changes_264 : decode cL_changes 264 = .ok (.iconst 1, 1) := by decide +kernel
theorem dL_changes_265 : decode cL_changes 265 = .ok (.goto 4, 3) := by decide +kernel
theorem dL_changes_268 : decode cL_changes 268 = .ok (.iconst 0, 1) := by decide +kernel
theorem dL_changes_269 : decode cL_changes 269 = .ok (.ireturn, 1) := by decide +kernel
theorem dL_changes_270 : decode cL_changes 270 = .ok (.iconst 1, 1) := by decide +kernel
theorem dL_changes_271 : decode cL_changes 271 = .ok (.aload_n 2, 1) := by decide +kernel
theorem dL_changes_272 : decode cL_changes 272 = .ok (.aload_n 2, 1) := by decide +kernel
theorem dL_changes_273 : decode cL_changes 273 = .ok (.iconst 2, 1) := by decide +kernel
theorem dL_changes_274 : decode cL_changes 274 = .ok (.invokestatic 35, 3) := by decide +kernel
theorem dL_changes_277 : decode cL_changes 277 = .ok (.ifCond .ne 8, 3) := by decide +kernel
theorem dL_changes_280 : decode cL_changes 280 = .ok (.bipush 40, 2) := by decide +kernel
theorem dL_changes_282 : decode cL_changes 282 = .ok (.goto 4, 3) := by decide +kernel
theorem dL_changes_285 : decode cL_changes 285 = .ok (.iconst 5, 1) := by decide +kernel
theorem dL_changes_286 : decode cL_changes 286 = .ok (.invokestatic 35, 3) := by decide +kernel
theorem dL_changes_289 : decode cL_changes 289 = .ok (.iadd, 1) := by decide +kernel
theorem dL_changes_290 : decode cL_changes 290 = .ok (.istore 5, 2) := by decide +kernel
theorem dL_changes_292 : decode cL_changes 292 = .ok (.iconst 0, 1) := by decide +kernel
theorem dL_changes_293 : decode cL_changes 293 = .ok (.istore 6, 2) := by decide +kernel
theorem dL_changes_295 : decode cL_changes 295 = .ok (.iload 6, 2) := by decide +kernel
theorem dL_changes_297 : decode cL_changes 297 = .ok (.iload 5, 2) := by decide +kernel
theorem dL_changes_299 : decode cL_changes 299 = .ok (.if_icmp .ge 13, 3) := by decide +kernel
theorem dL_changes_302 : decode cL_changes 302 = .ok (.aload_n 1, 1) := by decide +kernel
theorem dL_changes_303 : decode cL_changes 303 = .ok (.invokevirtual 249, 3) := by decide +kernel
theorem dL_changes_306 : decode cL_changes 306 = .ok (.iinc 6 1, 3) := by decide +kernel
theorem dL_changes_309 : decode cL_changes 309 = .ok (.goto (-14), 3) := by decide +kernel
theorem dL_changes_312 : decode cL_changes 312 = .ok (.aload_n 0, 1) := by decide +kernel
theorem dL_changes_313 : decode cL_changes 313 = .ok (.iload 5, 2) := by decide +kernel
theorem dL_changes_315 : decode cL_changes 315 = .ok (.invokevirtual 296, 3) := by decide +kernel
theorem dL_changes_318 : decode cL_changes 318 = .ok (.aload_n 1, 1) := by decide +kernel
theorem dL_changes_319 : decode cL_changes 319 = .ok (.getfield 210, 3) := by decide +kernel
theorem dL_changes_322 : decode cL_changes 322 = .ok (.if_icmp .ne 7, 3) := by decide +kernel
theorem dL_changes_325 : decode cL_changes 325 = .ok (.iconst 1, 1) := by decide +kernel
theorem dL_changes_326 : decode cL_changes 326 = .ok (.goto 4, 3) := by decide +kernel
theorem dL_changes_329 : decode cL_changes 329 = .ok (.iconst 0, 1) := by decide +kernel
theorem dL_changes_330 : decode cL_changes 330 = .ok (.ireturn, 1) := by decide +kernel
