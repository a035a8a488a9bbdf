theorem dX0_init_0 : decode cX0_init 0 = .ok (.aload_n 0, 1) := by decide +kernel
theorem dX0_init_1 : decode cX0_init 1 = .ok (.invokespecial 3, 3) := by decide +kernel
theorem dX0_init_4 : decode cX0_init 4 = .ok (.aload_n 0, 1) := by decide +kernel
theorem dX0_init_5 : decode cX0_init 5 = .ok (.bipush 10, 2) := by decide +kernel
theorem dX0_init_7 : decode cX0_init 7 = .ok (.anewarray 9, 3) := by decide +kernel
theorem dX0_init_10 : decode cX0_init 10 = .ok (.putfield 11, 3) := by decide +kernel
theorem dX0_init_13 : decode cX0_init 13 = .ok (.iconst 0, 1) := by decide +kernel
theorem dX0_init_14 : decode cX0_init 14 = .ok (.istore_n 2, 1) := by decide +kernel
theorem dX0_init_15 : decode cX0_init 15 = .ok (.iload_n 2, 1) := by decide +kernel
theorem dX0_init_16 : decode cX0_init 16 = .ok (.aload_n 0, 1) := by decide +kernel
theorem dX0_init_17 : decode cX0_init 17 = .ok (.getfield 11, 3) := by decide +kernel
theorem dX0_init_20 : decode cX0_init 20 = .ok (.arraylength, 1) := by decide +kernel
theorem dX0_init_21 : decode cX0_init 21 = .ok (.if_icmp .ge 23, 3) := by decide +kernel
theorem dX0_init_24 : decode cX0_init 24 = .ok (.aload_n 0, 1) := by decide +kernel
theorem dX0_init_25 : decode cX0_init 25 = .ok (.getfield 11, 3) := by decide +kernel
theorem dX0_init_28 : decode cX0_init 28 = .ok (.iload_n 2, 1) := by decide +kernel
theorem dX0_init_29 : decode cX0_init 29 = .ok (.new 9, 3) := by decide +kernel
theorem dX0_init_32 : decode cX0_init 32 = .ok (.dup, 1) := by decide +kernel
theorem dX0_init_33 : decode cX0_init 33 = .ok (.aload_n 1, 1) := by decide +kernel
theorem dX0_init_34 : decode cX0_init 34 = .ok (.invokespecial 17, 3) := by decide +kernel
theorem dX0_init_37 : decode cX0_init 37 = .ok (.aastore, 1) := by decide +kernel
theorem dX0_init_38 : decode cX0_init 38 = .ok (.iinc 2 1, 3) := by decide +kernel
theorem dX0_init_41 : decode cX0_init 41 = .ok (.goto (-26), 3) := by decide +kernel
theorem dX0_init_44 : decode cX0_init 44 = .ok (.return_, 1) := by decide +kernel
theorem dX0_clear_0 : decode cX0_clear 0 = .ok (.aload_n 0, 1) := by decide +kernel
theorem dX0_clear_1 : decode cX0_clear 1 = .ok (.iconst 0, 1) := by decide +kernel
theorem dX0_clear_2 : decode cX0_clear 2 = .ok (.putfield 20, 3) := by decide +kernel
theorem dX0_clear_5 : decode cX0_clear 5 = .ok (.return_, 1) := by decide +kernel
theorem dX0_keep_0 : decode cX0_keep 0 = .ok (.aload_n 0, 1) := by decide +kernel
theorem dX0_keep_1 : decode cX0_keep 1 = .ok (.aload_n 0, 1) := by decide +kernel
theorem dX0_keep_2 : decode cX0_keep 2 = .ok (.getfield 24, 3) := by decide +kernel
theorem dX0_keep_5 : decode cX0_keep 5 = .ok (.ifCond .lt 26, 3) := by decide +kernel
theorem dX0_keep_8 : decode cX0_keep 8 = .ok (.aload_n 0, 1) := by decide +kernel
theorem dX0_keep_9 : decode cX0_keep 9 = .ok (.getfield 24, 3) := by decide +kernel
theorem dX0_keep_12 : decode cX0_keep 12 = .ok (.aload_n 0, 1) := by decide +kernel
theorem dX0_keep_13 : decode cX0_keep 13 = .ok (.getfield 11, 3) := by decide +kernel
theorem dX0_keep_16 : decode cX0_keep 16 = .ok (.arraylength, 1) := by decide +kernel
theorem dX0_keep_17 : decode cX0_keep 17 = .ok (.iconst 1, 1) := by decide +kernel
theorem dX0_keep_18 : decode cX0_keep 18 = .ok (.isub, 1) := by decide +kernel
theorem dX0_keep_19 : decode cX0_keep 19 = .ok (.if_icmp .ge 12, 3) := by decide +kernel
theorem dX0_keep_22 : decode cX0_keep 22 = .ok (.aload_n 0, 1) := by decide +kernel
theorem dX0_keep_23 : decode cX0_keep 23 = .ok (.getfield 24, 3) := by decide +kernel
theorem dX0_keep_26 : decode cX0_keep 26 = .ok (.iconst 1, 1) := by decide +kernel
theorem dX0_keep_27 : decode cX0_keep 27 = .ok (.iadd, 1) := by decide +kernel
theorem dX0_keep_28 : decode cX0_keep 28 = .ok (.goto 4, 3) := by decide +kernel
theorem dX0_keep_31 : decode cX0_keep 31 = .ok (.iconst 0, 1) := by decide +kernel
theorem dX0_keep_32 : decode cX0_keep 32 = .ok (.putfield 24, 3) := by decide +kernel
theorem dX0_keep_35 : decode cX0_keep 35 = .ok (.aload_n 0, 1) := by decide +kernel
theorem dX0_keep_36 : decode cX0_keep 36 = .ok (.getfield 11, 3) := by decide +kernel
theorem dX0_keep_39 : decode cX0_keep 39 = .ok (.aload_n 0, 1) := by decide +kernel
theorem dX0_keep_40 : decode cX0_keep 40 = .ok (.getfield 24, 3) := by decide +kernel
theorem dX0_keep_43 : decode cX0_keep 43 = .ok (.aaload, 1) := by decide +kernel
theorem dX0_keep_44 : decode cX0_keep 44 = .ok (.aload_n 1, 1) := by decide +kernel
theorem dX0_keep_45 : decode cX0_keep 45 = .ok (.invokevirtual 27, 3) := by decide +kernel
theorem dX0_keep_48 : decode cX0_keep 48 = .ok (.aload_n 0, 1) := by decide +kernel
theorem dX0_keep_49 : decode cX0_keep 49 = .ok (.getfield 20, 3) := by decide +kernel
theorem dX0_keep_52 : decode cX0_keep 52 = .ok (.aload_n 0, 1) := by decide +kernel
theorem dX0_keep_53 : decode cX0_keep 53 = .ok (.getfield 11, 3) := by decide +kernel
theorem dX0_keep_56 : decode cX0_keep 56 = .ok (.arraylength, 1) := by decide +kernel
theorem dX0_keep_57 : decode cX0_keep 57 = .ok (.if_icmp .ge 13, 3) := by decide +kernel
theorem dX0_keep_60 : decode cX0_keep 60 = .ok (.aload_n 0, 1) := by decide +kernel
theorem dX0_keep_61 : decode cX0_keep 61 = .ok (.dup, 1) := by decide +kernel
theorem dX0_keep_62 : decode cX0_keep 62 = .ok (.getfield 20, 3) := by decide +kernel
theorem dX0_keep_65 : decode cX0_keep 65 = .ok (.iconst 1, 1) := by decide +kernel
theorem dX0_keep_66 : decode cX0_keep 66 = .ok (.iadd, 1) := by decide +kernel
theorem dX0_keep_67 : decode cX0_keep 67 = .ok (.putfield 20, 3) := by decide +kernel
theorem dX0_keep_70 : decode cX0_keep 70 = .ok (.return_, 1) := by decide +kernel
theorem dX1_init_0 : decode cX1_init 0 = .ok (.aload_n 0, 1) := by decide +kernel
theorem dX1_init_1 : decode cX1_init 1 = .ok (.invokespecial 3, 3) := by decide +kernel
theorem dX1_init_4 : decode cX1_init 4 = .ok (.aload_n 0, 1) := by decide +kernel
theorem dX1_init_5 : decode cX1_init 5 = .ok (.bipush 8, 2) := by decide +kernel
theorem dX1_init_7 : decode cX1_init 7 = .ok (.newarray .int, 2) := by decide +kernel
theorem dX1_init_9 : decode cX1_init 9 = .ok (.putfield 9, 3) := by decide +kernel
theorem dX1_init_12 : decode cX1_init 12 = .ok (.aload_n 0, 1) := by decide +kernel
theorem dX1_init_13 : decode cX1_init 13 = .ok (.bipush 8, 2) := by decide +kernel
theorem dX1_init_15 : decode cX1_init 15 = .ok (.newarray .int, 2) := by decide +kernel
theorem dX1_init_17 : decode cX1_init 17 = .ok (.putfield 15, 3) := by decide +kernel
theorem dX1_init_20 : decode cX1_init 20 = .ok (.aload_n 0, 1) := by decide +kernel
theorem dX1_init_21 : decode cX1_init 21 = .ok (.iconst 4, 1) := by decide +kernel
theorem dX1_init_22 : decode cX1_init 22 = .ok (.newarray .int, 2) := by decide +kernel
theorem dX1_init_24 : decode cX1_init 24 = .ok (.putfield 18, 3) := by decide +kernel
theorem dX1_init_27 : decode cX1_init 27 = .ok (.aload_n 0, 1) := by decide +kernel
theorem dX1_init_28 : decode cX1_init 28 = .ok (.iconst 4, 1) := by decide +kernel
theorem dX1_init_29 : decode cX1_init 29 = .ok (.anewarray 21, 3) := by decide +kernel
theorem dX1_init_32 : decode cX1_init 32 = .ok (.putfield 23, 3) := by decide +kernel
theorem dX1_init_35 : decode cX1_init 35 = .ok (.iconst 0, 1) := by decide +kernel
theorem dX1_init_36 : decode cX1_init 36 = .ok (.istore_n 1, 1) := by decide +kernel
theorem dX1_init_37 : decode cX1_init 37 = .ok (.iload_n 1, 1) := by decide +kernel
theorem dX1_init_38 : decode cX1_init 38 = .ok (.aload_n 0, 1) := by decide +kernel
theorem dX1_init_39 : decode cX1_init 39 = .ok (.getfield 23, 3) := by decide +kernel
theorem dX1_init_42 : decode cX1_init 42 = .ok (.arraylength, 1) := by decide +kernel
theorem dX1_init_43 : decode cX1_init 43 = .ok (.if_icmp .ge 22, 3) := by decide +kernel
theorem dX1_init_46 : decode cX1_init 46 = .ok (.aload_n 0, 1) := by decide +kernel
theorem dX1_init_47 : decode cX1_init 47 = .ok (.getfield 23, 3) := by decide +kernel
theorem dX1_init_50 : decode cX1_init 50 = .ok (.iload_n 1, 1) := by decide +kernel
theorem dX1_init_51 : decode cX1_init 51 = .ok (.new 21, 3) := by decide +kernel
theorem dX1_init_54 : decode cX1_init 54 = .ok (.dup, 1) := by decide +kernel
theorem dX1_init_55 : decode cX1_init 55 = .ok (.invokespecial 27, 3) := by decide +kernel
theorem dX1_init_58 : decode cX1_init 58 = .ok (.aastore, 1) := by decide +kernel
theorem dX1_init_59 : decode cX1_init 59 = .ok (.iinc 1 1, 3) := by decide +kernel
theorem dX1_init_62 : decode cX1_init 62 = .ok (.goto (-25), 3) := by decide +kernel
theorem dX1_init_65 : decode cX1_init 65 = .ok (.aload_n 0, 1) := by decide +kernel
theorem dX1_init_66 : decode cX1_init 66 = .ok (.invokevirtual 28, 3) := by decide +kernel
theorem dX1_init_69 : decode cX1_init 69 = .ok (.return_, 1) := by decide +kernel
theorem dX1_clear_0 : decode cX1_clear 0 = .ok (.aload_n 0, 1) := by decide +kernel
theorem dX1_clear_1 : decode cX1_clear 1 = .ok (.getfield 9, 3) := by decide +kernel
theorem dX1_clear_4 : decode cX1_clear 4 = .ok (.invokestatic 31, 3) := by decide +kernel
theorem dX1_clear_7 : decode cX1_clear 7 = .ok (.aload_n 0, 1) := by decide +kernel
theorem dX1_clear_8 : decode cX1_clear 8 = .ok (.getfield 15, 3) := by decide +kernel
theorem dX1_clear_11 : decode cX1_clear 11 = .ok (.invokestatic 31, 3) := by decide +kernel
theorem dX1_clear_14 : decode cX1_clear 14 = .ok (.aload_n 0, 1) := by decide +kernel
theorem dX1_clear_15 : decode cX1_clear 15 = .ok (.getfield 18, 3) := by decide +kernel
theorem dX1_clear_18 : decode cX1_clear 18 = .ok (.invokestatic 31, 3) := by decide +kernel
theorem dX1_clear_21 : decode cX1_clear 21 = .ok (.aload_n 0, 1) := by decide +kernel
theorem dX1_clear_22 : decode cX1_clear 22 = .ok (.getfield 23, 3) := by decide +kernel
theorem dX1_clear_25 : decode cX1_clear 25 = .ok (.astore_n 1, 1) := by decide +kernel
theorem dX1_clear_26 : decode cX1_clear 26 = .ok (.aload_n 1, 1) := by decide +kernel
theorem dX1_clear_27 : decode cX1_clear 27 = .ok (.arraylength, 1) := by decide +kernel
theorem dX1_clear_28 : decode cX1_clear 28 = .ok (.istore_n 2, 1) := by decide +kernel
theorem dX1_clear_29 : decode cX1_clear 29 = .ok (.iconst 0, 1) := by decide +kernel
theorem dX1_clear_30 : decode cX1_clear 30 = .ok (.istore_n 3, 1) := by decide +kernel
theorem dX1_clear_31 : decode cX1_clear 31 = .ok (.iload_n 3, 1) := by decide +kernel
theorem dX1_clear_32 : decode cX1_clear 32 = .ok (.iload_n 2, 1) := by decide +kernel
theorem dX1_clear_33 : decode cX1_clear 33 = .ok (.if_icmp .ge 19, 3) := by decide +kernel
theorem dX1_clear_36 : decode cX1_clear 36 = .ok (.aload_n 1, 1) := by decide +kernel
theorem dX1_clear_37 : decode cX1_clear 37 = .ok (.iload_n 3, 1) := by decide +kernel
theorem dX1_clear_38 : decode cX1_clear 38 = .ok (.aaload, 1) := by decide +kernel
theorem dX1_clear_39 : decode cX1_clear 39 = .ok (.astore 4, 2) := by decide +kernel
theorem dX1_clear_41 : decode cX1_clear 41 = .ok (.aload 4, 2) := by decide +kernel
theorem dX1_clear_43 : decode cX1_clear 43 = .ok (.invokevirtual 35, 3) := by decide +kernel
theorem dX1_clear_46 : decode cX1_clear 46 = .ok (.iinc 3 1, 3) := by decide +kernel
theorem dX1_clear_49 : decode cX1_clear 49 = .ok (.goto (-18), 3) := by decide +kernel
theorem dX1_clear_52 : decode cX1_clear 52 = .ok (.aload_n 0, 1) := by decide +kernel
theorem dX1_clear_53 : decode cX1_clear 53 = .ok (.iconst 1, 1) := by decide +kernel
theorem dX1_clear_54 : decode cX1_clear 54 = .ok (.putfield 36, 3) := by decide +kernel
theorem dX1_clear_57 : decode cX1_clear 57 = .ok (.aload_n 0, 1) := by decide +kernel
theorem dX1_clear_58 : decode cX1_clear 58 = .ok (.iconst 1, 1) := by decide +kernel
theorem dX1_clear_59 : decode cX1_clear 59 = .ok (.putfield 40, 3) := by decide +kernel
theorem dX1_clear_62 : decode cX1_clear 62 = .ok (.aload_n 0, 1) := by decide +kernel
theorem dX1_clear_63 : decode cX1_clear 63 = .ok (.iconst 1, 1) := by decide +kernel
theorem dX1_clear_64 : decode cX1_clear 64 = .ok (.putfield 43, 3) := by decide +kernel
theorem dX1_clear_67 : decode cX1_clear 67 = .ok (.aload_n 0, 1) := by decide +kernel
theorem dX1_clear_68 : decode cX1_clear 68 = .ok (.bipush 10, 2) := by decide +kernel
theorem dX1_clear_70 : decode cX1_clear 70 = .ok (.putfield 46, 3) := by decide +kernel
theorem dX1_clear_73 : decode cX1_clear 73 = .ok (.aload_n 0, 1) := by decide +kernel
theorem dX1_clear_74 : decode cX1_clear 74 = .ok (.iconst 0, 1) := by decide +kernel
theorem dX1_clear_75 : decode cX1_clear 75 = .ok (.putfield 49, 3) := by decide +kernel
theorem dX1_clear_78 : decode cX1_clear 78 = .ok (.aload_n 0, 1) := by decide +kernel
theorem dX1_clear_79 : decode cX1_clear 79 = .ok (.iconst 0, 1) := by decide +kernel
theorem dX1_clear_80 : decode cX1_clear 80 = .ok (.putfield 52, 3) := by decide +kernel
theorem dX1_clear_83 : decode cX1_clear 83 = .ok (.aload_n 0, 1) := by decide +kernel
theorem dX1_clear_84 : decode cX1_clear 84 = .ok (.iconst 0, 1) := by decide +kernel
theorem dX1_clear_85 : decode cX1_clear 85 = .ok (.putfield 55, 3) := by decide +kernel
theorem dX1_clear_88 : decode cX1_clear 88 = .ok (.aload_n 0, 1) := by decide +kernel
theorem dX1_clear_89 : decode cX1_clear 89 = .ok (.iconst 0, 1) := by decide +kernel
theorem dX1_clear_90 : decode cX1_clear 90 = .ok (.putfield 58, 3) := by decide +kernel
theorem dX1_clear_93 : decode cX1_clear 93 = .ok (.return_, 1) := by decide +kernel
theorem dX1_copyFrom_0 : decode cX1_copyFrom 0 = .ok (.aload_n 1, 1) := by decide +kernel
theorem dX1_copyFrom_1 : decode cX1_copyFrom 1 = .ok (.getfield 9, 3) := by decide +kernel
theorem dX1_copyFrom_4 : decode cX1_copyFrom 4 = .ok (.aload_n 0, 1) := by decide +kernel
theorem dX1_copyFrom_5 : decode cX1_copyFrom 5 = .ok (.getfield 9, 3) := by decide +kernel
theorem dX1_copyFrom_8 : decode cX1_copyFrom 8 = .ok (.invokestatic 61, 3) := by decide +kernel
theorem dX1_copyFrom_11 : decode cX1_copyFrom 11 = .ok (.aload_n 1, 1) := by decide +kernel
theorem dX1_copyFrom_12 : decode cX1_copyFrom 12 = .ok (.getfield 15, 3) := by decide +kernel
theorem dX1_copyFrom_15 : decode cX1_copyFrom 15 = .ok (.aload_n 0, 1) := by decide +kernel
theorem dX1_copyFrom_16 : decode cX1_copyFrom 16 = .ok (.getfield 15, 3) := by decide +kernel
theorem dX1_copyFrom_19 : decode cX1_copyFrom 19 = .ok (.invokestatic 61, 3) := by decide +kernel
theorem dX1_copyFrom_22 : decode cX1_copyFrom 22 = .ok (.aload_n 1, 1) := by decide +kernel
theorem dX1_copyFrom_23 : decode cX1_copyFrom 23 = .ok (.getfield 18, 3) := by decide +kernel
theorem dX1_copyFrom_26 : decode cX1_copyFrom 26 = .ok (.aload_n 0, 1) := by decide +kernel
theorem dX1_copyFrom_27 : decode cX1_copyFrom 27 = .ok (.getfield 18, 3) := by decide +kernel
theorem dX1_copyFrom_30 : decode cX1_copyFrom 30 = .ok (.invokestatic 61, 3) := by decide +kernel
theorem dX1_copyFrom_33 : decode cX1_copyFrom 33 = .ok (.iconst 0, 1) := by decide +kernel
theorem dX1_copyFrom_34 : decode cX1_copyFrom 34 = .ok (.istore_n 2, 1) := by decide +kernel
theorem dX1_copyFrom_35 : decode cX1_copyFrom 35 = .ok (.iload_n 2, 1) := by decide +kernel
theorem dX1_copyFrom_36 : decode cX1_copyFrom 36 = .ok (.aload_n 0, 1) := by decide +kernel
theorem dX1_copyFrom_37 : decode cX1_copyFrom 37 = .ok (.getfield 23, 3) := by decide +kernel
theorem dX1_copyFrom_40 : decode cX1_copyFrom 40 = .ok (.arraylength, 1) := by decide +kernel
theorem dX1_copyFrom_41 : decode cX1_copyFrom 41 = .ok (.if_icmp .ge 33, 3) := by decide +kernel
theorem dX1_copyFrom_44 : decode cX1_copyFrom 44 = .ok (.iload_n 2, 1) := by decide +kernel
theorem dX1_copyFrom_45 : decode cX1_copyFrom 45 = .ok (.aload_n 1, 1) := by decide +kernel
theorem dX1_copyFrom_46 : decode cX1_copyFrom 46 = .ok (.getfield 23, 3) := by decide +kernel
theorem dX1_copyFrom_49 : decode cX1_copyFrom 49 = .ok (.arraylength, 1) := by decide +kernel
theorem dX1_copyFrom_50 : decode cX1_copyFrom 50 = .ok (.if_icmp .ge 24, 3) := by decide +kernel
theorem dX1_copyFrom_53 : decode cX1_copyFrom 53 = .ok (.aload_n 0, 1) := by decide +kernel
theorem dX1_copyFrom_54 : decode cX1_copyFrom 54 = .ok (.getfield 23, 3) := by decide +kernel
theorem dX1_copyFrom_57 : decode cX1_copyFrom 57 = .ok (.iload_n 2, 1) := by decide +kernel
theorem dX1_copyFrom_58 : decode cX1_copyFrom 58 = .ok (.aaload, 1) := by decide +kernel
theorem dX1_copyFrom_59 : decode cX1_copyFrom 59 = .ok (.aload_n 1, 1) := by decide +kernel
theorem dX1_copyFrom_60 : decode cX1_copyFrom 60 = .ok (.getfield 23, 3) := by decide +kernel
theorem dX1_copyFrom_63 : decode cX1_copyFrom 63 = .ok (.iload_n 2, 1) := by decide +kernel
theorem dX1_copyFrom_64 : decode cX1_copyFrom 64 = .ok (.aaload, 1) := by decide +kernel
theorem dX1_copyFrom_65 : decode cX1_copyFrom 65 = .ok (.invokevirtual 65, 3) := by decide +kernel
theorem dX1_copyFrom_68 : decode cX1_copyFrom 68 = .ok (.iinc 2 1, 3) := by decide +kernel
theorem dX1_copyFrom_71 : decode cX1_copyFrom 71 = .ok (.goto (-36), 3) := by decide +kernel
theorem dX1_copyFrom_74 : decode cX1_copyFrom 74 = .ok (.aload_n 0, 1) := by decide +kernel
theorem dX1_copyFrom_75 : decode cX1_copyFrom 75 = .ok (.aload_n 1, 1) := by decide +kernel
theorem dX1_copyFrom_76 : decode cX1_copyFrom 76 = .ok (.getfield 36, 3) := by decide +kernel
theorem dX1_copyFrom_79 : decode cX1_copyFrom 79 = .ok (.putfield 36, 3) := by decide +kernel
theorem dX1_copyFrom_82 : decode cX1_copyFrom 82 = .ok (.aload_n 0, 1) := by decide +kernel
theorem dX1_copyFrom_83 : decode cX1_copyFrom 83 = .ok (.aload_n 1, 1) := by decide +kernel
theorem dX1_copyFrom_84 : decode cX1_copyFrom 84 = .ok (.getfield 40, 3) := by decide +kernel
theorem dX1_copyFrom_87 : decode cX1_copyFrom 87 = .ok (.putfield 40, 3) := by decide +kernel
theorem dX1_copyFrom_90 : decode cX1_copyFrom 90 = .ok (.aload_n 0, 1) := by decide +kernel
theorem dX1_copyFrom_91 : decode cX1_copyFrom 91 = .ok (.aload_n 1, 1) := by decide +kernel
theorem dX1_copyFrom_92 : decode cX1_copyFrom 92 = .ok (.getfield 43, 3) := by decide +kernel
theorem dX1_copyFrom_95 : decode cX1_copyFrom 95 = .ok (.putfield 43, 3) := by decide +kernel
theorem dX1_copyFrom_98 : decode cX1_copyFrom 98 = .ok (.aload_n 0, 1) := by decide +kernel
theorem dX1_copyFrom_99 : decode cX1_copyFrom 99 = .ok (.aload_n 1, 1) := by decide +kernel
theorem dX1_copyFrom_100 : decode cX1_copyFrom 100 = .ok (.getfield 46, 3) := by decide +kernel
theorem dX1_copyFrom_103 : decode cX1_copyFrom 103 = .ok (.putfield 46, 3) := by decide +kernel
theorem dX1_copyFrom_106 : decode cX1_copyFrom 106 = .ok (.aload_n 0, 1) := by decide +kernel
theorem dX1_copyFrom_107 : decode cX1_copyFrom 107 = .ok (.aload_n 1, 1) := by decide +kernel
theorem dX1_copyFrom_108 : decode cX1_copyFrom 108 = .ok (.getfield 49, 3) := by decide +kernel
theorem dX1_copyFrom_111 : decode cX1_copyFrom 111 = .ok (.putfield 49, 3) := by decide +kernel
theorem dX1_copyFrom_114 : decode cX1_copyFrom 114 = .ok (.aload_n 0, 1) := by decide +kernel
theorem dX1_copyFrom_115 : decode cX1_copyFrom 115 = .ok (.aload_n 1, 1) := by decide +kernel
theorem dX1_copyFrom_116 : decode cX1_copyFrom 116 = .ok (.getfield 52, 3) := by decide +kernel
theorem dX1_copyFrom_119 : decode cX1_copyFrom 119 = .ok (.putfield 52, 3) := by decide +kernel
theorem dX1_copyFrom_122 : decode cX1_copyFrom 122 = .ok (.aload_n 0, 1) := by decide +kernel
theorem dX1_copyFrom_123 : decode cX1_copyFrom 123 = .ok (.aload_n 1, 1) := by decide +kernel
theorem dX1_copyFrom_124 : decode cX1_copyFrom 124 = .ok (.getfield 55, 3) := by decide +kernel
theorem dX1_copyFrom_127 : decode cX1_copyFrom 127 = .ok (.putfield 55, 3) := by decide +kernel
theorem dX1_copyFrom_130 : decode cX1_copyFrom 130 = .ok (.aload_n 0, 1) := by decide +kernel
theorem dX1_copyFrom_131 : decode cX1_copyFrom 131 = .ok (.aload_n 1, 1) := by decide +kernel
theorem dX1_copyFrom_132 : decode cX1_copyFrom 132 = .ok (.getfield 58, 3) := by decide +kernel
theorem dX1_copyFrom_135 : decode cX1_copyFrom 135 = .ok (.putfield 58, 3) := by decide +kernel
theorem dX1_copyFrom_138 : decode cX1_copyFrom 138 = .ok (.return_, 1) := by decide +kernel
theorem dX1_addPiece_0 : decode cX1_addPiece 0 = .ok (.aload_n 0, 1) := by decide +kernel
theorem dX1_addPiece_1 : decode cX1_addPiece 1 = .ok (.getfield 49, 3) := by decide +kernel
theorem dX1_addPiece_4 : decode cX1_addPiece 4 = .ok (.aload_n 0, 1) := by decide +kernel
theorem dX1_addPiece_5 : decode cX1_addPiece 5 = .ok (.getfield 9, 3) := by decide +kernel
theorem dX1_addPiece_8 : decode cX1_addPiece 8 = .ok (.arraylength, 1) := by decide +kernel
theorem dX1_addPiece_9 : decode cX1_addPiece 9 = .ok (.if_icmp .ge 55, 3) := by decide +kernel
theorem dX1_addPiece_12 : decode cX1_addPiece 12 = .ok (.aload_n 0, 1) := by decide +kernel
theorem dX1_addPiece_13 : decode cX1_addPiece 13 = .ok (.getfield 49, 3) := by decide +kernel
theorem dX1_addPiece_16 : decode cX1_addPiece 16 = .ok (.aload_n 0, 1) := by decide +kernel
theorem dX1_addPiece_17 : decode cX1_addPiece 17 = .ok (.getfield 15, 3) := by decide +kernel
theorem dX1_addPiece_20 : decode cX1_addPiece 20 = .ok (.arraylength, 1) := by decide +kernel
theorem dX1_addPiece_21 : decode cX1_addPiece 21 = .ok (.if_icmp .ge 43, 3) := by decide +kernel
theorem dX1_addPiece_24 : decode cX1_addPiece 24 = .ok (.aload_n 0, 1) := by decide +kernel
theorem dX1_addPiece_25 : decode cX1_addPiece 25 = .ok (.getfield 9, 3) := by decide +kernel
theorem dX1_addPiece_28 : decode cX1_addPiece 28 = .ok (.aload_n 0, 1) := by decide +kernel
theorem dX1_addPiece_29 : decode cX1_addPiece 29 = .ok (.getfield 49, 3) := by decide +kernel
theorem dX1_addPiece_32 : decode cX1_addPiece 32 = .ok (.iload_n 1, 1) := by decide +kernel
theorem dX1_addPiece_33 : decode cX1_addPiece 33 = .ok (.iastore, 1) := by decide +kernel
theorem dX1_addPiece_34 : decode cX1_addPiece 34 = .ok (.aload_n 0, 1) := by decide +kernel
theorem dX1_addPiece_35 : decode cX1_addPiece 35 = .ok (.getfield 15, 3) := by decide +kernel
theorem dX1_addPiece_38 : decode cX1_addPiece 38 = .ok (.aload_n 0, 1) := by decide +kernel
theorem dX1_addPiece_39 : decode cX1_addPiece 39 = .ok (.getfield 49, 3) := by decide +kernel
theorem dX1_addPiece_42 : decode cX1_addPiece 42 = .ok (.iload_n 2, 1) := by decide +kernel
theorem dX1_addPiece_43 : decode cX1_addPiece 43 = .ok (.iastore, 1) := by decide +kernel
theorem dX1_addPiece_44 : decode cX1_addPiece 44 = .ok (.aload_n 0, 1) := by decide +kernel
theorem dX1_addPiece_45 : decode cX1_addPiece 45 = .ok (.dup, 1) := by decide +kernel
theorem dX1_addPiece_46 : decode cX1_addPiece 46 = .ok (.getfield 49, 3) := by decide +kernel
theorem dX1_addPiece_49 : decode cX1_addPiece 49 = .ok (.iconst 1, 1) := by decide +kernel
theorem dX1_addPiece_50 : decode cX1_addPiece 50 = .ok (.iadd, 1) := by decide +kernel
theorem dX1_addPiece_51 : decode cX1_addPiece 51 = .ok (.putfield 49, 3) := by decide +kernel
theorem dX1_addPiece_54 : decode cX1_addPiece 54 = .ok (.aload_n 0, 1) := by decide +kernel
theorem dX1_addPiece_55 : decode cX1_addPiece 55 = .ok (.dup, 1) := by decide +kernel
theorem dX1_addPiece_56 : decode cX1_addPiece 56 = .ok (.getfield 58, 3) := by decide +kernel
theorem dX1_addPiece_59 : decode cX1_addPiece 59 = .ok (.iload_n 1, 1) := by decide +kernel
theorem dX1_addPiece_60 : decode cX1_addPiece 60 = .ok (.iadd, 1) := by decide +kernel
theorem dX1_addPiece_61 : decode cX1_addPiece 61 = .ok (.putfield 58, 3) := by decide +kernel
theorem dX1_addPiece_64 : decode cX1_addPiece 64 = .ok (.return_, 1) := by decide +kernel
theorem dX1_addPercent_0 : decode cX1_addPercent 0 = .ok (.aload_n 0, 1) := by decide +kernel
theorem dX1_addPercent_1 : decode cX1_addPercent 1 = .ok (.getfield 52, 3) := by decide +kernel
theorem dX1_addPercent_4 : decode cX1_addPercent 4 = .ok (.aload_n 0, 1) := by decide +kernel
theorem dX1_addPercent_5 : decode cX1_addPercent 5 = .ok (.getfield 18, 3) := by decide +kernel
theorem dX1_addPercent_8 : decode cX1_addPercent 8 = .ok (.arraylength, 1) := by decide +kernel
theorem dX1_addPercent_9 : decode cX1_addPercent 9 = .ok (.if_icmp .ge 23, 3) := by decide +kernel
theorem dX1_addPercent_12 : decode cX1_addPercent 12 = .ok (.aload_n 0, 1) := by decide +kernel
theorem dX1_addPercent_13 : decode cX1_addPercent 13 = .ok (.getfield 18, 3) := by decide +kernel
theorem dX1_addPercent_16 : decode cX1_addPercent 16 = .ok (.aload_n 0, 1) := by decide +kernel
theorem dX1_addPercent_17 : decode cX1_addPercent 17 = .ok (.getfield 52, 3) := by decide +kernel
theorem dX1_addPercent_20 : decode cX1_addPercent 20 = .ok (.iload_n 1, 1) := by decide +kernel
theorem dX1_addPercent_21 : decode cX1_addPercent 21 = .ok (.iastore, 1) := by decide +kernel
theorem dX1_addPercent_22 : decode cX1_addPercent 22 = .ok (.aload_n 0, 1) := by decide +kernel
theorem dX1_addPercent_23 : decode cX1_addPercent 23 = .ok (.dup, 1) := by decide +kernel
theorem dX1_addPercent_24 : decode cX1_addPercent 24 = .ok (.getfield 52, 3) := by decide +kernel
theorem dX1_addPercent_27 : decode cX1_addPercent 27 = .ok (.iconst 1, 1) := by decide +kernel
theorem dX1_addPercent_28 : decode cX1_addPercent 28 = .ok (.iadd, 1) := by decide +kernel
theorem dX1_addPercent_29 : decode cX1_addPercent 29 = .ok (.putfield 52, 3) := by decide +kernel
theorem dX1_addPercent_32 : decode cX1_addPercent 32 = .ok (.return_, 1) := by decide +kernel
theorem dX1_indexOfName_0 : decode cX1_indexOfName 0 = .ok (.iconst 0, 1) := by decide +kernel
theorem dX1_indexOfName_1 : decode cX1_indexOfName 1 = .ok (.istore_n 3, 1) := by decide +kernel
theorem dX1_indexOfName_2 : decode cX1_indexOfName 2 = .ok (.iload_n 3, 1) := by decide +kernel
theorem dX1_indexOfName_3 : decode cX1_indexOfName 3 = .ok (.aload_n 0, 1) := by decide +kernel
theorem dX1_indexOfName_4 : decode cX1_indexOfName 4 = .ok (.getfield 55, 3) := by decide +kernel
theorem dX1_indexOfName_7 : decode cX1_indexOfName 7 = .ok (.if_icmp .ge 34, 3) := by decide +kernel
theorem dX1_indexOfName_10 : decode cX1_indexOfName 10 = .ok (.iload_n 3, 1) := by decide +kernel
theorem dX1_indexOfName_11 : decode cX1_indexOfName 11 = .ok (.aload_n 0, 1) := by decide +kernel
theorem dX1_indexOfName_12 : decode cX1_indexOfName 12 = .ok (.getfield 23, 3) := by decide +kernel
theorem dX1_indexOfName_15 : decode cX1_indexOfName 15 = .ok (.arraylength, 1) := by decide +kernel
theorem dX1_indexOfName_16 : decode cX1_indexOfName 16 = .ok (.if_icmp .ge 25, 3) := by decide +kernel
theorem dX1_indexOfName_19 : decode cX1_indexOfName 19 = .ok (.aload_n 0, 1) := by decide +kernel
theorem dX1_indexOfName_20 : decode cX1_indexOfName 20 = .ok (.getfield 23, 3) := by decide +kernel
theorem dX1_indexOfName_23 : decode cX1_indexOfName 23 = .ok (.iload_n 3, 1) := by decide +kernel
theorem dX1_indexOfName_24 : decode cX1_indexOfName 24 = .ok (.aaload, 1) := by decide +kernel
theorem dX1_indexOfName_25 : decode cX1_indexOfName 25 = .ok (.getfield 69, 3) := by decide +kernel
theorem dX1_indexOfName_28 : decode cX1_indexOfName 28 = .ok (.lload_n 1, 1) := by decide +kernel
theorem dX1_indexOfName_29 : decode cX1_indexOfName 29 = .ok (.lcmp, 1) := by decide +kernel
theorem dX1_indexOfName_30 : decode cX1_indexOfName 30 = .ok (.ifCond .ne 5, 3) := by decide +kernel
theorem dX1_indexOfName_33 : decode cX1_indexOfName 33 = .ok (.iload_n 3, 1) := by decide +kernel
theorem dX1_indexOfName_34 : decode cX1_indexOfName 34 = .ok (.ireturn, 1) := by decide +kernel
theorem dX1_indexOfName_35 : decode cX1_indexOfName 35 = .ok (.iinc 3 1, 3) := by decide +kernel
theorem dX1_indexOfName_38 : decode cX1_indexOfName 38 = .ok (.goto (-36), 3) := by decide +kernel
theorem dX1_indexOfName_41 : decode cX1_indexOfName 41 = .ok (.iconst (-1), 1) := by decide +kernel
theorem dX1_indexOfName_42 : decode cX1_indexOfName 42 = .ok (.ireturn, 1) := by decide +kernel
theorem dX1_setAllSegments_0 : decode cX1_setAllSegments 0 = .ok (.aload_n 0, 1) := by decide +kernel
theorem dX1_setAllSegments_1 : decode cX1_setAllSegments 1 = .ok (.getfield 23, 3) := by decide +kernel
theorem dX1_setAllSegments_4 : decode cX1_setAllSegments 4 = .ok (.astore_n 1, 1) := by decide +kernel
theorem dX1_setAllSegments_5 : decode cX1_setAllSegments 5 = .ok (.aload_n 1, 1) := by decide +kernel
theorem dX1_setAllSegments_6 : decode cX1_setAllSegments 6 = .ok (.arraylength, 1) := by decide +kernel
theorem dX1_setAllSegments_7 : decode cX1_setAllSegments 7 = .ok (.istore_n 2, 1) := by decide +kernel
theorem dX1_setAllSegments_8 : decode cX1_setAllSegments 8 = .ok (.iconst 0, 1) := by decide +kernel
theorem dX1_setAllSegments_9 : decode cX1_setAllSegments 9 = .ok (.istore_n 3, 1) := by decide +kernel
theorem dX1_setAllSegments_10 : decode cX1_setAllSegments 10 = .ok (.iload_n 3, 1) := by decide +kernel
theorem dX1_setAllSegments_11 : decode cX1_setAllSegments 11 = .ok (.iload_n 2, 1) := by decide +kernel
theorem dX1_setAllSegments_12 : decode cX1_setAllSegments 12 = .ok (.if_icmp .ge 99, 3) := by decide +kernel
theorem dX1_setAllSegments_15 : decode cX1_setAllSegments 15 = .ok (.aload_n 1, 1) := by decide +kernel
theorem dX1_setAllSegments_16 : decode cX1_setAllSegments 16 = .ok (.iload_n 3, 1) := by decide +kernel
theorem dX1_setAllSegments_17 : decode cX1_setAllSegments 17 = .ok (.aaload, 1) := by decide +kernel
theorem dX1_setAllSegments_18 : decode cX1_setAllSegments 18 = .ok (.astore 4, 2) := by decide +kernel
theorem dX1_setAllSegments_20 : decode cX1_setAllSegments 20 = .ok (.iconst 0, 1) := by decide +kernel
theorem dX1_setAllSegments_21 : decode cX1_setAllSegments 21 = .ok (.istore 5, 2) := by decide +kernel
theorem dX1_setAllSegments_23 : decode cX1_setAllSegments 23 = .ok (.iload 5, 2) := by decide +kernel
theorem dX1_setAllSegments_25 : decode cX1_setAllSegments 25 = .ok (.aload 4, 2) := by decide +kernel
theorem dX1_setAllSegments_27 : decode cX1_setAllSegments 27 = .ok (.getfield 73, 3) := by decide +kernel
theorem dX1_setAllSegments_30 : decode cX1_setAllSegments 30 = .ok (.if_icmp .ge 75, 3) := by decide +kernel
theorem dX1_setAllSegments_33 : decode cX1_setAllSegments 33 = .ok (.aload_n 0, 1) := by decide +kernel
theorem dX1_setAllSegments_34 : decode cX1_setAllSegments 34 = .ok (.getfield 52, 3) := by decide +kernel
theorem dX1_setAllSegments_37 : decode cX1_setAllSegments 37 = .ok (.ifCond .le 13, 3) := by decide +kernel
theorem dX1_setAllSegments_40 : decode cX1_setAllSegments 40 = .ok (.iload 5, 2) := by decide +kernel
theorem dX1_setAllSegments_42 : decode cX1_setAllSegments 42 = .ok (.aload_n 0, 1) := by decide +kernel
theorem dX1_setAllSegments_43 : decode cX1_setAllSegments 43 = .ok (.getfield 52, 3) := by decide +kernel
theorem dX1_setAllSegments_46 : decode cX1_setAllSegments 46 = .ok (.irem, 1) := by decide +kernel
theorem dX1_setAllSegments_47 : decode cX1_setAllSegments 47 = .ok (.goto 4, 3) := by decide +kernel
theorem dX1_setAllSegments_50 : decode cX1_setAllSegments 50 = .ok (.iconst (-1), 1) := by decide +kernel
theorem dX1_setAllSegments_51 : decode cX1_setAllSegments 51 = .ok (.istore 6, 2) := by decide +kernel
theorem dX1_setAllSegments_53 : decode cX1_setAllSegments 53 = .ok (.iload 6, 2) := by decide +kernel
theorem dX1_setAllSegments_55 : decode cX1_setAllSegments 55 = .ok (.ifCond .lt 17, 3) := by decide +kernel
theorem dX1_setAllSegments_58 : decode cX1_setAllSegments 58 = .ok (.iload 6, 2) := by decide +kernel
theorem dX1_setAllSegments_60 : decode cX1_setAllSegments 60 = .ok (.aload_n 0, 1) := by decide +kernel
theorem dX1_setAllSegments_61 : decode cX1_setAllSegments 61 = .ok (.getfield 18, 3) := by decide +kernel
theorem dX1_setAllSegments_64 : decode cX1_setAllSegments 64 = .ok (.arraylength, 1) := by decide +kernel
theorem dX1_setAllSegments_65 : decode cX1_setAllSegments 65 = .ok (.if_icmp .ge 7, 3) := by decide +kernel
theorem dX1_setAllSegments_68 : decode cX1_setAllSegments 68 = .ok (.iconst 1, 1) := by decide +kernel
theorem dX1_setAllSegments_69 : decode cX1_setAllSegments 69 = .ok (.goto 4, 3) := by decide +kernel
theorem dX1_setAllSegments_72 : decode cX1_setAllSegments 72 = .ok (.iconst 0, 1) := by decide +kernel
theorem dX1_setAllSegments_73 : decode cX1_setAllSegments 73 = .ok (.istore 7, 2) := by decide +kernel
theorem dX1_setAllSegments_75 : decode cX1_setAllSegments 75 = .ok (.aload 4, 2) := by decide +kernel
theorem dX1_setAllSegments_77 : decode cX1_setAllSegments 77 = .ok (.iload 5, 2) := by decide +kernel
theorem dX1_setAllSegments_79 : decode cX1_setAllSegments 79 = .ok (.iload 7, 2) := by decide +kernel
theorem dX1_setAllSegments_81 : decode cX1_setAllSegments 81 = .ok (.ifCond .eq 13, 3) := by decide +kernel
theorem dX1_setAllSegments_84 : decode cX1_setAllSegments 84 = .ok (.aload_n 0, 1) := by decide +kernel
theorem dX1_setAllSegments_85 : decode cX1_setAllSegments 85 = .ok (.getfield 18, 3) := by decide +kernel
theorem dX1_setAllSegments_88 : decode cX1_setAllSegments 88 = .ok (.iload 6, 2) := by decide +kernel
theorem dX1_setAllSegments_90 : decode cX1_setAllSegments 90 = .ok (.iaload, 1) := by decide +kernel
theorem dX1_setAllSegments_91 : decode cX1_setAllSegments 91 = .ok (.goto 5, 3) := by decide +kernel
theorem dX1_setAllSegments_94 : decode cX1_setAllSegments 94 = .ok (.bipush 100, 2) := by decide +kernel
theorem dX1_setAllSegments_96 : decode cX1_setAllSegments 96 = .ok (.invokevirtual 76, 3) := by decide +kernel
theorem dX1_setAllSegments_99 : decode cX1_setAllSegments 99 = .ok (.iinc 5 1, 3) := by decide +kernel
theorem dX1_setAllSegments_102 : decode cX1_setAllSegments 102 = .ok (.goto (-79), 3) := by decide +kernel
theorem dX1_setAllSegments_105 : decode cX1_setAllSegments 105 = .ok (.iinc 3 1, 3) := by decide +kernel
theorem dX1_setAllSegments_108 : decode cX1_setAllSegments 108 = .ok (.goto (-98), 3) := by decide +kernel
theorem dX1_setAllSegments_111 : decode cX1_setAllSegments 111 = .ok (.return_, 1) := by decide +kernel
theorem dX2_init_0 : decode cX2_init 0 = .ok (.aload_n 0, 1) := by decide +kernel
theorem dX2_init_1 : decode cX2_init 1 = .ok (.invokespecial 3, 3) := by decide +kernel
theorem dX2_init_4 : decode cX2_init 4 = .ok (.aload_n 0, 1) := by decide +kernel
theorem dX2_init_5 : decode cX2_init 5 = .ok (.bipush 30, 2) := by decide +kernel
theorem dX2_init_7 : decode cX2_init 7 = .ok (.newarray .int, 2) := by decide +kernel
theorem dX2_init_9 : decode cX2_init 9 = .ok (.putfield 9, 3) := by decide +kernel
theorem dX2_init_12 : decode cX2_init 12 = .ok (.aload_n 0, 1) := by decide +kernel
theorem dX2_init_13 : decode cX2_init 13 = .ok (.aload_n 1, 1) := by decide +kernel
theorem dX2_init_14 : decode cX2_init 14 = .ok (.putfield 15, 3) := by decide +kernel
theorem dX2_init_17 : decode cX2_init 17 = .ok (.aload_n 0, 1) := by decide +kernel
theorem dX2_init_18 : decode cX2_init 18 = .ok (.new 19, 3) := by decide +kernel
theorem dX2_init_21 : decode cX2_init 21 = .ok (.dup, 1) := by decide +kernel
theorem dX2_init_22 : decode cX2_init 22 = .ok (.aload_n 1, 1) := by decide +kernel
theorem dX2_init_23 : decode cX2_init 23 = .ok (.getfield 21, 3) := by decide +kernel
theorem dX2_init_26 : decode cX2_init 26 = .ok (.invokespecial 25, 3) := by decide +kernel
theorem dX2_init_29 : decode cX2_init 29 = .ok (.putfield 28, 3) := by decide +kernel
theorem dX2_init_32 : decode cX2_init 32 = .ok (.aload_n 0, 1) := by decide +kernel
theorem dX2_init_33 : decode cX2_init 33 = .ok (.new 19, 3) := by decide +kernel
theorem dX2_init_36 : decode cX2_init 36 = .ok (.dup, 1) := by decide +kernel
theorem dX2_init_37 : decode cX2_init 37 = .ok (.aload_n 1, 1) := by decide +kernel
theorem dX2_init_38 : decode cX2_init 38 = .ok (.getfield 21, 3) := by decide +kernel
theorem dX2_init_41 : decode cX2_init 41 = .ok (.invokespecial 25, 3) := by decide +kernel
theorem dX2_init_44 : decode cX2_init 44 = .ok (.putfield 31, 3) := by decide +kernel
theorem dX2_init_47 : decode cX2_init 47 = .ok (.return_, 1) := by decide +kernel
theorem dX2_afterOneTick_0 : decode cX2_afterOneTick 0 = .ok (.aload_n 0, 1) := by decide +kernel
theorem dX2_afterOneTick_1 : decode cX2_afterOneTick 1 = .ok (.getfield 31, 3) := by decide +kernel
theorem dX2_afterOneTick_4 : decode cX2_afterOneTick 4 = .ok (.aload_n 0, 1) := by decide +kernel
theorem dX2_afterOneTick_5 : decode cX2_afterOneTick 5 = .ok (.getfield 15, 3) := by decide +kernel
theorem dX2_afterOneTick_8 : decode cX2_afterOneTick 8 = .ok (.invokevirtual 34, 3) := by decide +kernel
theorem dX2_afterOneTick_11 : decode cX2_afterOneTick 11 = .ok (.aload_n 0, 1) := by decide +kernel
theorem dX2_afterOneTick_12 : decode cX2_afterOneTick 12 = .ok (.getfield 31, 3) := by decide +kernel
theorem dX2_afterOneTick_15 : decode cX2_afterOneTick 15 = .ok (.invokevirtual 38, 3) := by decide +kernel
theorem dX2_afterOneTick_18 : decode cX2_afterOneTick 18 = .ok (.aload_n 0, 1) := by decide +kernel
theorem dX2_afterOneTick_19 : decode cX2_afterOneTick 19 = .ok (.getfield 31, 3) := by decide +kernel
theorem dX2_afterOneTick_22 : decode cX2_afterOneTick 22 = .ok (.areturn, 1) := by decide +kernel
theorem dX2_atEnd_0 : decode cX2_atEnd 0 = .ok (.aload_n 0, 1) := by decide +kernel
theorem dX2_atEnd_1 : decode cX2_atEnd 1 = .ok (.getfield 31, 3) := by decide +kernel
theorem dX2_atEnd_4 : decode cX2_atEnd 4 = .ok (.aload_n 0, 1) := by decide +kernel
theorem dX2_atEnd_5 : decode cX2_atEnd 5 = .ok (.getfield 15, 3) := by decide +kernel
theorem dX2_atEnd_8 : decode cX2_atEnd 8 = .ok (.invokevirtual 34, 3) := by decide +kernel
theorem dX2_atEnd_11 : decode cX2_atEnd 11 = .ok (.aload_n 0, 1) := by decide +kernel
theorem dX2_atEnd_12 : decode cX2_atEnd 12 = .ok (.getfield 31, 3) := by decide +kernel
theorem dX2_atEnd_15 : decode cX2_atEnd 15 = .ok (.invokevirtual 41, 3) := by decide +kernel
theorem dX2_atEnd_18 : decode cX2_atEnd 18 = .ok (.aload_n 0, 1) := by decide +kernel
theorem dX2_atEnd_19 : decode cX2_atEnd 19 = .ok (.getfield 31, 3) := by decide +kernel
theorem dX2_atEnd_22 : decode cX2_atEnd 22 = .ok (.areturn, 1) := by decide +kernel
theorem dX2_greatestSteadyQuality_0 : decode cX2_greatestSteadyQuality 0 = .ok (.aload_n 0, 1) := by decide +kernel
theorem dX2_greatestSteadyQuality_1 : decode cX2_greatestSteadyQuality 1 = .ok (.getfield 15, 3) := by decide +kernel
theorem dX2_greatestSteadyQuality_4 : decode cX2_greatestSteadyQuality 4 = .ok (.iload_n 1, 1) := by decide +kernel
theorem dX2_greatestSteadyQuality_5 : decode cX2_greatestSteadyQuality 5 = .ok (.invokevirtual 44, 3) := by decide +kernel
theorem dX2_greatestSteadyQuality_8 : decode cX2_greatestSteadyQuality 8 = .ok (.getfield 48, 3) := by decide +kernel
theorem dX2_greatestSteadyQuality_11 : decode cX2_greatestSteadyQuality 11 = .ok (.getfield 54, 3) := by decide +kernel
theorem dX2_greatestSteadyQuality_14 : decode cX2_greatestSteadyQuality 14 = .ok (.iconst 1, 1) := by decide +kernel
theorem dX2_greatestSteadyQuality_15 : decode cX2_greatestSteadyQuality 15 = .ok (.isub, 1) := by decide +kernel
theorem dX2_greatestSteadyQuality_16 : decode cX2_greatestSteadyQuality 16 = .ok (.istore_n 2, 1) := by decide +kernel
theorem dX2_greatestSteadyQuality_17 : decode cX2_greatestSteadyQuality 17 = .ok (.iload_n 2, 1) := by decide +kernel
theorem dX2_greatestSteadyQuality_18 : decode cX2_greatestSteadyQuality 18 = .ok (.ifCond .lt 47, 3) := by decide +kernel
theorem dX2_greatestSteadyQuality_21 : decode cX2_greatestSteadyQuality 21 = .ok (.iconst 0, 1) := by decide +kernel
theorem dX2_greatestSteadyQuality_22 : decode cX2_greatestSteadyQuality 22 = .ok (.istore_n 3, 1) := by decide +kernel
theorem dX2_greatestSteadyQuality_23 : decode cX2_greatestSteadyQuality 23 = .ok (.iload_n 3, 1) := by decide +kernel
theorem dX2_greatestSteadyQuality_24 : decode cX2_greatestSteadyQuality 24 = .ok (.aload_n 0, 1) := by decide +kernel
theorem dX2_greatestSteadyQuality_25 : decode cX2_greatestSteadyQuality 25 = .ok (.getfield 9, 3) := by decide +kernel
theorem dX2_greatestSteadyQuality_28 : decode cX2_greatestSteadyQuality 28 = .ok (.arraylength, 1) := by decide +kernel
theorem dX2_greatestSteadyQuality_29 : decode cX2_greatestSteadyQuality 29 = .ok (.if_icmp .ge 16, 3) := by decide +kernel
theorem dX2_greatestSteadyQuality_32 : decode cX2_greatestSteadyQuality 32 = .ok (.aload_n 0, 1) := by decide +kernel
theorem dX2_greatestSteadyQuality_33 : decode cX2_greatestSteadyQuality 33 = .ok (.getfield 9, 3) := by decide +kernel
theorem dX2_greatestSteadyQuality_36 : decode cX2_greatestSteadyQuality 36 = .ok (.iload_n 3, 1) := by decide +kernel
theorem dX2_greatestSteadyQuality_37 : decode cX2_greatestSteadyQuality 37 = .ok (.iload_n 2, 1) := by decide +kernel
theorem dX2_greatestSteadyQuality_38 : decode cX2_greatestSteadyQuality 38 = .ok (.iastore, 1) := by decide +kernel
theorem dX2_greatestSteadyQuality_39 : decode cX2_greatestSteadyQuality 39 = .ok (.iinc 3 1, 3) := by decide +kernel
theorem dX2_greatestSteadyQuality_42 : decode cX2_greatestSteadyQuality 42 = .ok (.goto (-19), 3) := by decide +kernel
theorem dX2_greatestSteadyQuality_45 : decode cX2_greatestSteadyQuality 45 = .ok (.aload_n 0, 1) := by decide +kernel
theorem dX2_greatestSteadyQuality_46 : decode cX2_greatestSteadyQuality 46 = .ok (.aload_n 0, 1) := by decide +kernel
theorem dX2_greatestSteadyQuality_47 : decode cX2_greatestSteadyQuality 47 = .ok (.getfield 15, 3) := by decide +kernel
theorem dX2_greatestSteadyQuality_50 : decode cX2_greatestSteadyQuality 50 = .ok (.iload_n 1, 1) := by decide +kernel
theorem dX2_greatestSteadyQuality_51 : decode cX2_greatestSteadyQuality 51 = .ok (.invokevirtual 60, 3) := by decide +kernel
theorem dX2_greatestSteadyQuality_54 : decode cX2_greatestSteadyQuality 54 = .ok (.ifCond .eq 5, 3) := by decide +kernel
theorem dX2_greatestSteadyQuality_57 : decode cX2_greatestSteadyQuality 57 = .ok (.iload_n 2, 1) := by decide +kernel
theorem dX2_greatestSteadyQuality_58 : decode cX2_greatestSteadyQuality 58 = .ok (.ireturn, 1) := by decide +kernel
theorem dX2_greatestSteadyQuality_59 : decode cX2_greatestSteadyQuality 59 = .ok (.iinc 2 (-1), 3) := by decide +kernel
theorem dX2_greatestSteadyQuality_62 : decode cX2_greatestSteadyQuality 62 = .ok (.goto (-45), 3) := by decide +kernel
theorem dX2_greatestSteadyQuality_65 : decode cX2_greatestSteadyQuality 65 = .ok (.iconst (-1), 1) := by decide +kernel
theorem dX2_greatestSteadyQuality_66 : decode cX2_greatestSteadyQuality 66 = .ok (.ireturn, 1) := by decide +kernel
theorem dX2_atEndAsPlanned_0 : decode cX2_atEndAsPlanned 0 = .ok (.aload_n 0, 1) := by decide +kernel
theorem dX2_atEndAsPlanned_1 : decode cX2_atEndAsPlanned 1 = .ok (.getfield 31, 3) := by decide +kernel
theorem dX2_atEndAsPlanned_4 : decode cX2_atEndAsPlanned 4 = .ok (.aload_n 0, 1) := by decide +kernel
theorem dX2_atEndAsPlanned_5 : decode cX2_atEndAsPlanned 5 = .ok (.getfield 15, 3) := by decide +kernel
theorem dX2_atEndAsPlanned_8 : decode cX2_atEndAsPlanned 8 = .ok (.invokevirtual 34, 3) := by decide +kernel
theorem dX2_atEndAsPlanned_11 : decode cX2_atEndAsPlanned 11 = .ok (.aload_n 0, 1) := by decide +kernel
theorem dX2_atEndAsPlanned_12 : decode cX2_atEndAsPlanned 12 = .ok (.getfield 31, 3) := by decide +kernel
theorem dX2_atEndAsPlanned_15 : decode cX2_atEndAsPlanned 15 = .ok (.iload_n 1, 1) := by decide +kernel
theorem dX2_atEndAsPlanned_16 : decode cX2_atEndAsPlanned 16 = .ok (.invokevirtual 44, 3) := by decide +kernel
theorem dX2_atEndAsPlanned_19 : decode cX2_atEndAsPlanned 19 = .ok (.astore_n 2, 1) := by decide +kernel
theorem dX2_atEndAsPlanned_20 : decode cX2_atEndAsPlanned 20 = .ok (.aload_n 2, 1) := by decide +kernel
theorem dX2_atEndAsPlanned_21 : decode cX2_atEndAsPlanned 21 = .ok (.aload_n 0, 1) := by decide +kernel
theorem dX2_atEndAsPlanned_22 : decode cX2_atEndAsPlanned 22 = .ok (.getfield 9, 3) := by decide +kernel
theorem dX2_atEndAsPlanned_25 : decode cX2_atEndAsPlanned 25 = .ok (.putfield 64, 3) := by decide +kernel
theorem dX2_atEndAsPlanned_28 : decode cX2_atEndAsPlanned 28 = .ok (.aload_n 0, 1) := by decide +kernel
theorem dX2_atEndAsPlanned_29 : decode cX2_atEndAsPlanned 29 = .ok (.getfield 31, 3) := by decide +kernel
theorem dX2_atEndAsPlanned_32 : decode cX2_atEndAsPlanned 32 = .ok (.invokevirtual 41, 3) := by decide +kernel
theorem dX2_atEndAsPlanned_35 : decode cX2_atEndAsPlanned 35 = .ok (.aload_n 2, 1) := by decide +kernel
theorem dX2_atEndAsPlanned_36 : decode cX2_atEndAsPlanned 36 = .ok (.areturn, 1) := by decide +kernel
theorem dX2_planned_0 : decode cX2_planned 0 = .ok (.iload_n 1, 1) := by decide +kernel
theorem dX2_planned_1 : decode cX2_planned 1 = .ok (.ifCond .lt 21, 3) := by decide +kernel
theorem dX2_planned_4 : decode cX2_planned 4 = .ok (.iload_n 1, 1) := by decide +kernel
theorem dX2_planned_5 : decode cX2_planned 5 = .ok (.aload_n 0, 1) := by decide +kernel
theorem dX2_planned_6 : decode cX2_planned 6 = .ok (.getfield 9, 3) := by decide +kernel
theorem dX2_planned_9 : decode cX2_planned 9 = .ok (.arraylength, 1) := by decide +kernel
theorem dX2_planned_10 : decode cX2_planned 10 = .ok (.if_icmp .ge 12, 3) := by decide +kernel
theorem dX2_planned_13 : decode cX2_planned 13 = .ok (.aload_n 0, 1) := by decide +kernel
theorem dX2_planned_14 : decode cX2_planned 14 = .ok (.getfield 9, 3) := by decide +kernel
theorem dX2_planned_17 : decode cX2_planned 17 = .ok (.iload_n 1, 1) := by decide +kernel
theorem dX2_planned_18 : decode cX2_planned 18 = .ok (.iaload, 1) := by decide +kernel
theorem dX2_planned_19 : decode cX2_planned 19 = .ok (.goto 4, 3) := by decide +kernel
theorem dX2_planned_22 : decode cX2_planned 22 = .ok (.iconst (-1), 1) := by decide +kernel
theorem dX2_planned_23 : decode cX2_planned 23 = .ok (.ireturn, 1) := by decide +kernel
theorem dX2_planAsOracle_0 : decode cX2_planAsOracle 0 = .ok (.aload_n 0, 1) := by decide +kernel
theorem dX2_planAsOracle_1 : decode cX2_planAsOracle 1 = .ok (.getfield 9, 3) := by decide +kernel
theorem dX2_planAsOracle_4 : decode cX2_planAsOracle 4 = .ok (.invokestatic 69, 3) := by decide +kernel
theorem dX2_planAsOracle_7 : decode cX2_planAsOracle 7 = .ok (.aload_n 0, 1) := by decide +kernel
theorem dX2_planAsOracle_8 : decode cX2_planAsOracle 8 = .ok (.getfield 28, 3) := by decide +kernel
theorem dX2_planAsOracle_11 : decode cX2_planAsOracle 11 = .ok (.aload_n 0, 1) := by decide +kernel
theorem dX2_planAsOracle_12 : decode cX2_planAsOracle 12 = .ok (.getfield 15, 3) := by decide +kernel
theorem dX2_planAsOracle_15 : decode cX2_planAsOracle 15 = .ok (.invokevirtual 34, 3) := by decide +kernel
theorem dX2_planAsOracle_18 : decode cX2_planAsOracle 18 = .ok (.aload_n 0, 1) := by decide +kernel
theorem dX2_planAsOracle_19 : decode cX2_planAsOracle 19 = .ok (.getfield 28, 3) := by decide +kernel
theorem dX2_planAsOracle_22 : decode cX2_planAsOracle 22 = .ok (.iload_n 1, 1) := by decide +kernel
theorem dX2_planAsOracle_23 : decode cX2_planAsOracle 23 = .ok (.invokevirtual 44, 3) := by decide +kernel
theorem dX2_planAsOracle_26 : decode cX2_planAsOracle 26 = .ok (.astore_n 3, 1) := by decide +kernel
theorem dX2_planAsOracle_27 : decode cX2_planAsOracle 27 = .ok (.aload_n 3, 1) := by decide +kernel
theorem dX2_planAsOracle_28 : decode cX2_planAsOracle 28 = .ok (.aload_n 0, 1) := by decide +kernel
theorem dX2_planAsOracle_29 : decode cX2_planAsOracle 29 = .ok (.getfield 9, 3) := by decide +kernel
theorem dX2_planAsOracle_32 : decode cX2_planAsOracle 32 = .ok (.putfield 64, 3) := by decide +kernel
theorem dX2_planAsOracle_35 : decode cX2_planAsOracle 35 = .ok (.aload_n 3, 1) := by decide +kernel
theorem dX2_planAsOracle_36 : decode cX2_planAsOracle 36 = .ok (.getfield 73, 3) := by decide +kernel
theorem dX2_planAsOracle_39 : decode cX2_planAsOracle 39 = .ok (.istore 4, 2) := by decide +kernel
theorem dX2_planAsOracle_41 : decode cX2_planAsOracle 41 = .ok (.aload_n 3, 1) := by decide +kernel
theorem dX2_planAsOracle_42 : decode cX2_planAsOracle 42 = .ok (.invokevirtual 76, 3) := by decide +kernel
theorem dX2_planAsOracle_45 : decode cX2_planAsOracle 45 = .ok (.istore 5, 2) := by decide +kernel
theorem dX2_planAsOracle_47 : decode cX2_planAsOracle 47 = .ok (.iload 5, 2) := by decide +kernel
theorem dX2_planAsOracle_49 : decode cX2_planAsOracle 49 = .ok (.iload_n 2, 1) := by decide +kernel
theorem dX2_planAsOracle_50 : decode cX2_planAsOracle 50 = .ok (.if_icmp .gt 140, 3) := by decide +kernel
theorem dX2_planAsOracle_53 : decode cX2_planAsOracle 53 = .ok (.iload 5, 2) := by decide +kernel
theorem dX2_planAsOracle_55 : decode cX2_planAsOracle 55 = .ok (.aload_n 0, 1) := by decide +kernel
theorem dX2_planAsOracle_56 : decode cX2_planAsOracle 56 = .ok (.getfield 9, 3) := by decide +kernel
theorem dX2_planAsOracle_59 : decode cX2_planAsOracle 59 = .ok (.arraylength, 1) := by decide +kernel
theorem dX2_planAsOracle_60 : decode cX2_planAsOracle 60 = .ok (.if_icmp .ge 130, 3) := by decide +kernel
theorem dX2_planAsOracle_63 : decode cX2_planAsOracle 63 = .ok (.aload_n 0, 1) := by decide +kernel
theorem dX2_planAsOracle_64 : decode cX2_planAsOracle 64 = .ok (.getfield 28, 3) := by decide +kernel
theorem dX2_planAsOracle_67 : decode cX2_planAsOracle 67 = .ok (.getfield 80, 3) := by decide +kernel
theorem dX2_planAsOracle_70 : decode cX2_planAsOracle 70 = .ok (.istore 6, 2) := by decide +kernel
theorem dX2_planAsOracle_72 : decode cX2_planAsOracle 72 = .ok (.iload 6, 2) := by decide +kernel
theorem dX2_planAsOracle_74 : decode cX2_planAsOracle 74 = .ok (.sipush 2000, 3) := by decide +kernel
theorem dX2_planAsOracle_77 : decode cX2_planAsOracle 77 = .ok (.if_icmp .ge 25, 3) := by decide +kernel
theorem dX2_planAsOracle_80 : decode cX2_planAsOracle 80 = .ok (.aload_n 3, 1) := by decide +kernel
theorem dX2_planAsOracle_81 : decode cX2_planAsOracle 81 = .ok (.iload 6, 2) := by decide +kernel
theorem dX2_planAsOracle_83 : decode cX2_planAsOracle 83 = .ok (.invokevirtual 83, 3) := by decide +kernel
theorem dX2_planAsOracle_86 : decode cX2_planAsOracle 86 = .ok (.ifCond .ne 16, 3) := by decide +kernel
theorem dX2_planAsOracle_89 : decode cX2_planAsOracle 89 = .ok (.aload_n 0, 1) := by decide +kernel
theorem dX2_planAsOracle_90 : decode cX2_planAsOracle 90 = .ok (.getfield 28, 3) := by decide +kernel
theorem dX2_planAsOracle_93 : decode cX2_planAsOracle 93 = .ok (.invokevirtual 38, 3) := by decide +kernel
theorem dX2_planAsOracle_96 : decode cX2_planAsOracle 96 = .ok (.iinc 6 1, 3) := by decide +kernel
theorem dX2_planAsOracle_99 : decode cX2_planAsOracle 99 = .ok (.goto (-27), 3) := by decide +kernel
theorem dX2_planAsOracle_102 : decode cX2_planAsOracle 102 = .ok (.aload_n 0, 1) := by decide +kernel
theorem dX2_planAsOracle_103 : decode cX2_planAsOracle 103 = .ok (.getfield 28, 3) := by decide +kernel
theorem dX2_planAsOracle_106 : decode cX2_planAsOracle 106 = .ok (.getfield 80, 3) := by decide +kernel
theorem dX2_planAsOracle_109 : decode cX2_planAsOracle 109 = .ok (.sipush 2000, 3) := by decide +kernel
theorem dX2_planAsOracle_112 : decode cX2_planAsOracle 112 = .ok (.if_icmp .ge 12, 3) := by decide +kernel
theorem dX2_planAsOracle_115 : decode cX2_planAsOracle 115 = .ok (.aload_n 3, 1) := by decide +kernel
theorem dX2_planAsOracle_116 : decode cX2_planAsOracle 116 = .ok (.getfield 73, 3) := by decide +kernel
theorem dX2_planAsOracle_119 : decode cX2_planAsOracle 119 = .ok (.iload 4, 2) := by decide +kernel
theorem dX2_planAsOracle_121 : decode cX2_planAsOracle 121 = .ok (.if_icmp .le 4, 3) := by decide +kernel
theorem dX2_planAsOracle_124 : decode cX2_planAsOracle 124 = .ok (.return_, 1) := by decide +kernel
theorem dX2_planAsOracle_125 : decode cX2_planAsOracle 125 = .ok (.aload_n 3, 1) := by decide +kernel
theorem dX2_planAsOracle_126 : decode cX2_planAsOracle 126 = .ok (.getfield 48, 3) := by decide +kernel
theorem dX2_planAsOracle_129 : decode cX2_planAsOracle 129 = .ok (.getfield 54, 3) := by decide +kernel
theorem dX2_planAsOracle_132 : decode cX2_planAsOracle 132 = .ok (.iconst 1, 1) := by decide +kernel
theorem dX2_planAsOracle_133 : decode cX2_planAsOracle 133 = .ok (.isub, 1) := by decide +kernel
theorem dX2_planAsOracle_134 : decode cX2_planAsOracle 134 = .ok (.istore 6, 2) := by decide +kernel
theorem dX2_planAsOracle_136 : decode cX2_planAsOracle 136 = .ok (.aload_n 0, 1) := by decide +kernel
theorem dX2_planAsOracle_137 : decode cX2_planAsOracle 137 = .ok (.getfield 9, 3) := by decide +kernel
theorem dX2_planAsOracle_140 : decode cX2_planAsOracle 140 = .ok (.iload 5, 2) := by decide +kernel
theorem dX2_planAsOracle_142 : decode cX2_planAsOracle 142 = .ok (.iload 6, 2) := by decide +kernel
theorem dX2_planAsOracle_144 : decode cX2_planAsOracle 144 = .ok (.iastore, 1) := by decide +kernel
theorem dX2_planAsOracle_145 : decode cX2_planAsOracle 145 = .ok (.iload 6, 2) := by decide +kernel
theorem dX2_planAsOracle_147 : decode cX2_planAsOracle 147 = .ok (.ifCond .le 30, 3) := by decide +kernel
theorem dX2_planAsOracle_150 : decode cX2_planAsOracle 150 = .ok (.aload_n 0, 1) := by decide +kernel
theorem dX2_planAsOracle_151 : decode cX2_planAsOracle 151 = .ok (.aload_n 0, 1) := by decide +kernel
theorem dX2_planAsOracle_152 : decode cX2_planAsOracle 152 = .ok (.getfield 28, 3) := by decide +kernel
theorem dX2_planAsOracle_155 : decode cX2_planAsOracle 155 = .ok (.iload_n 1, 1) := by decide +kernel
theorem dX2_planAsOracle_156 : decode cX2_planAsOracle 156 = .ok (.invokevirtual 60, 3) := by decide +kernel
theorem dX2_planAsOracle_159 : decode cX2_planAsOracle 159 = .ok (.ifCond .ne 18, 3) := by decide +kernel
theorem dX2_planAsOracle_162 : decode cX2_planAsOracle 162 = .ok (.iinc 6 (-1), 3) := by decide +kernel
theorem dX2_planAsOracle_165 : decode cX2_planAsOracle 165 = .ok (.aload_n 0, 1) := by decide +kernel
theorem dX2_planAsOracle_166 : decode cX2_planAsOracle 166 = .ok (.getfield 9, 3) := by decide +kernel
theorem dX2_planAsOracle_169 : decode cX2_planAsOracle 169 = .ok (.iload 5, 2) := by decide +kernel
theorem dX2_planAsOracle_171 : decode cX2_planAsOracle 171 = .ok (.iload 6, 2) := by decide +kernel
theorem dX2_planAsOracle_173 : decode cX2_planAsOracle 173 = .ok (.iastore, 1) := by decide +kernel
theorem dX2_planAsOracle_174 : decode cX2_planAsOracle 174 = .ok (.goto (-29), 3) := by decide +kernel
theorem dX2_planAsOracle_177 : decode cX2_planAsOracle 177 = .ok (.aload_n 0, 1) := by decide +kernel
theorem dX2_planAsOracle_178 : decode cX2_planAsOracle 178 = .ok (.getfield 28, 3) := by decide +kernel
theorem dX2_planAsOracle_181 : decode cX2_planAsOracle 181 = .ok (.invokevirtual 38, 3) := by decide +kernel
theorem dX2_planAsOracle_184 : decode cX2_planAsOracle 184 = .ok (.iinc 5 1, 3) := by decide +kernel
theorem dX2_planAsOracle_187 : decode cX2_planAsOracle 187 = .ok (.goto (-140), 3) := by decide +kernel
theorem dX2_planAsOracle_190 : decode cX2_planAsOracle 190 = .ok (.return_, 1) := by decide +kernel
theorem dX2_isSteady_0 : decode cX2_isSteady 0 = .ok (.aload_n 0, 1) := by decide +kernel
theorem dX2_isSteady_1 : decode cX2_isSteady 1 = .ok (.getfield 15, 3) := by decide +kernel
theorem dX2_isSteady_4 : decode cX2_isSteady 4 = .ok (.iload_n 2, 1) := by decide +kernel
theorem dX2_isSteady_5 : decode cX2_isSteady 5 = .ok (.invokevirtual 44, 3) := by decide +kernel
theorem dX2_isSteady_8 : decode cX2_isSteady 8 = .ok (.getfield 73, 3) := by decide +kernel
theorem dX2_isSteady_11 : decode cX2_isSteady 11 = .ok (.istore_n 3, 1) := by decide +kernel
theorem dX2_isSteady_12 : decode cX2_isSteady 12 = .ok (.aload_n 0, 1) := by decide +kernel
theorem dX2_isSteady_13 : decode cX2_isSteady 13 = .ok (.getfield 31, 3) := by decide +kernel
theorem dX2_isSteady_16 : decode cX2_isSteady 16 = .ok (.aload_n 1, 1) := by decide +kernel
theorem dX2_isSteady_17 : decode cX2_isSteady 17 = .ok (.invokevirtual 34, 3) := by decide +kernel
theorem dX2_isSteady_20 : decode cX2_isSteady 20 = .ok (.aload_n 0, 1) := by decide +kernel
theorem dX2_isSteady_21 : decode cX2_isSteady 21 = .ok (.getfield 31, 3) := by decide +kernel
theorem dX2_isSteady_24 : decode cX2_isSteady 24 = .ok (.iload_n 2, 1) := by decide +kernel
theorem dX2_isSteady_25 : decode cX2_isSteady 25 = .ok (.invokevirtual 44, 3) := by decide +kernel
theorem dX2_isSteady_28 : decode cX2_isSteady 28 = .ok (.astore 4, 2) := by decide +kernel
theorem dX2_isSteady_30 : decode cX2_isSteady 30 = .ok (.aload 4, 2) := by decide +kernel
theorem dX2_isSteady_32 : decode cX2_isSteady 32 = .ok (.aload_n 0, 1) := by decide +kernel
theorem dX2_isSteady_33 : decode cX2_isSteady 33 = .ok (.getfield 9, 3) := by decide +kernel
theorem dX2_isSteady_36 : decode cX2_isSteady 36 = .ok (.putfield 64, 3) := by decide +kernel
theorem dX2_isSteady_39 : decode cX2_isSteady 39 = .ok (.aload_n 0, 1) := by decide +kernel
theorem dX2_isSteady_40 : decode cX2_isSteady 40 = .ok (.getfield 31, 3) := by decide +kernel
theorem dX2_isSteady_43 : decode cX2_isSteady 43 = .ok (.getfield 80, 3) := by decide +kernel
theorem dX2_isSteady_46 : decode cX2_isSteady 46 = .ok (.istore 5, 2) := by decide +kernel
theorem dX2_isSteady_48 : decode cX2_isSteady 48 = .ok (.iload 5, 2) := by decide +kernel
theorem dX2_isSteady_50 : decode cX2_isSteady 50 = .ok (.sipush 2000, 3) := by decide +kernel
theorem dX2_isSteady_53 : decode cX2_isSteady 53 = .ok (.if_icmp .ge 33, 3) := by decide +kernel
theorem dX2_isSteady_56 : decode cX2_isSteady 56 = .ok (.aload 4, 2) := by decide +kernel
theorem dX2_isSteady_58 : decode cX2_isSteady 58 = .ok (.invokevirtual 86, 3) := by decide +kernel
theorem dX2_isSteady_61 : decode cX2_isSteady 61 = .ok (.ifCond .eq 25, 3) := by decide +kernel
theorem dX2_isSteady_64 : decode cX2_isSteady 64 = .ok (.aload 4, 2) := by decide +kernel
theorem dX2_isSteady_66 : decode cX2_isSteady 66 = .ok (.getfield 73, 3) := by decide +kernel
theorem dX2_isSteady_69 : decode cX2_isSteady 69 = .ok (.iload_n 3, 1) := by decide +kernel
theorem dX2_isSteady_70 : decode cX2_isSteady 70 = .ok (.if_icmp .gt 16, 3) := by decide +kernel
theorem dX2_isSteady_73 : decode cX2_isSteady 73 = .ok (.aload_n 0, 1) := by decide +kernel
theorem dX2_isSteady_74 : decode cX2_isSteady 74 = .ok (.getfield 31, 3) := by decide +kernel
theorem dX2_isSteady_77 : decode cX2_isSteady 77 = .ok (.invokevirtual 38, 3) := by decide +kernel
theorem dX2_isSteady_80 : decode cX2_isSteady 80 = .ok (.iinc 5 1, 3) := by decide +kernel
theorem dX2_isSteady_83 : decode cX2_isSteady 83 = .ok (.goto (-35), 3) := by decide +kernel
theorem dX2_isSteady_86 : decode cX2_isSteady 86 = .ok (.aload 4, 2) := by decide +kernel
theorem dX2_isSteady_88 : decode cX2_isSteady 88 = .ok (.getfield 90, 3) := by decide +kernel
theorem dX2_isSteady_91 : decode cX2_isSteady 91 = .ok (.iconst 3, 1) := by decide +kernel
theorem dX2_isSteady_92 : decode cX2_isSteady 92 = .ok (.if_icmp .ne 16, 3) := by decide +kernel
theorem dX2_isSteady_95 : decode cX2_isSteady 95 = .ok (.aload 4, 2) := by decide +kernel
theorem dX2_isSteady_97 : decode cX2_isSteady 97 = .ok (.getfield 73, 3) := by decide +kernel
theorem dX2_isSteady_100 : decode cX2_isSteady 100 = .ok (.iload_n 3, 1) := by decide +kernel
theorem dX2_isSteady_101 : decode cX2_isSteady 101 = .ok (.if_icmp .gt 7, 3) := by decide +kernel
theorem dX2_isSteady_104 : decode cX2_isSteady 104 = .ok (.iconst 1, 1) := by decide +kernel
theorem dX2_isSteady_105 : decode cX2_isSteady 105 = .ok (.goto 4, 3) := by decide +kernel
theorem dX2_isSteady_108 : decode cX2_isSteady 108 = .ok (.iconst 0, 1) := by decide +kernel
theorem dX2_isSteady_109 : decode cX2_isSteady 109 = .ok (.ireturn, 1) := by decide +kernel
theorem dX3_init_0 : decode cX3_init 0 = .ok (.aload_n 0, 1) := by decide +kernel
theorem dX3_init_1 : decode cX3_init 1 = .ok (.invokespecial 3, 3) := by decide +kernel
theorem dX3_init_4 : decode cX3_init 4 = .ok (.aload_n 0, 1) := by decide +kernel
theorem dX3_init_5 : decode cX3_init 5 = .ok (.bipush 30, 2) := by decide +kernel
theorem dX3_init_7 : decode cX3_init 7 = .ok (.newarray .int, 2) := by decide +kernel
theorem dX3_init_9 : decode cX3_init 9 = .ok (.putfield 9, 3) := by decide +kernel
theorem dX3_init_12 : decode cX3_init 12 = .ok (.aload_n 0, 1) := by decide +kernel
theorem dX3_init_13 : decode cX3_init 13 = .ok (.bipush 30, 2) := by decide +kernel
theorem dX3_init_15 : decode cX3_init 15 = .ok (.newarray .int, 2) := by decide +kernel
theorem dX3_init_17 : decode cX3_init 17 = .ok (.putfield 15, 3) := by decide +kernel
theorem dX3_init_20 : decode cX3_init 20 = .ok (.aload_n 0, 1) := by decide +kernel
theorem dX3_init_21 : decode cX3_init 21 = .ok (.bipush 30, 2) := by decide +kernel
theorem dX3_init_23 : decode cX3_init 23 = .ok (.newarray .int, 2) := by decide +kernel
theorem dX3_init_25 : decode cX3_init 25 = .ok (.putfield 18, 3) := by decide +kernel
theorem dX3_init_28 : decode cX3_init 28 = .ok (.aload_n 0, 1) := by decide +kernel
theorem dX3_init_29 : decode cX3_init 29 = .ok (.aload_n 1, 1) := by decide +kernel
theorem dX3_init_30 : decode cX3_init 30 = .ok (.putfield 21, 3) := by decide +kernel
theorem dX3_init_33 : decode cX3_init 33 = .ok (.aload_n 0, 1) := by decide +kernel
theorem dX3_init_34 : decode cX3_init 34 = .ok (.aload_n 2, 1) := by decide +kernel
theorem dX3_init_35 : decode cX3_init 35 = .ok (.putfield 25, 3) := by decide +kernel
theorem dX3_init_38 : decode cX3_init 38 = .ok (.aload_n 0, 1) := by decide +kernel
theorem dX3_init_39 : decode cX3_init 39 = .ok (.iconst 0, 1) := by decide +kernel
theorem dX3_init_40 : decode cX3_init 40 = .ok (.invokevirtual 29, 3) := by decide +kernel
theorem dX3_init_43 : decode cX3_init 43 = .ok (.return_, 1) := by decide +kernel
theorem dX3_begin_0 : decode cX3_begin 0 = .ok (.aload_n 0, 1) := by decide +kernel
theorem dX3_begin_1 : decode cX3_begin 1 = .ok (.iload_n 1, 1) := by decide +kernel
theorem dX3_begin_2 : decode cX3_begin 2 = .ok (.ifCond .eq 7, 3) := by decide +kernel
theorem dX3_begin_5 : decode cX3_begin 5 = .ok (.iconst 0, 1) := by decide +kernel
theorem dX3_begin_6 : decode cX3_begin 6 = .ok (.goto 4, 3) := by decide +kernel
theorem dX3_begin_9 : decode cX3_begin 9 = .ok (.iconst 5, 1) := by decide +kernel
theorem dX3_begin_10 : decode cX3_begin 10 = .ok (.putfield 33, 3) := by decide +kernel
theorem dX3_begin_13 : decode cX3_begin 13 = .ok (.aload_n 0, 1) := by decide +kernel
theorem dX3_begin_14 : decode cX3_begin 14 = .ok (.aload_n 0, 1) := by decide +kernel
theorem dX3_begin_15 : decode cX3_begin 15 = .ok (.getfield 25, 3) := by decide +kernel
theorem dX3_begin_18 : decode cX3_begin 18 = .ok (.getfield 37, 3) := by decide +kernel
theorem dX3_begin_21 : decode cX3_begin 21 = .ok (.putfield 42, 3) := by decide +kernel
theorem dX3_begin_24 : decode cX3_begin 24 = .ok (.aload_n 0, 1) := by decide +kernel
theorem dX3_begin_25 : decode cX3_begin 25 = .ok (.aload_n 0, 1) := by decide +kernel
theorem dX3_begin_26 : decode cX3_begin 26 = .ok (.getfield 25, 3) := by decide +kernel
theorem dX3_begin_29 : decode cX3_begin 29 = .ok (.getfield 43, 3) := by decide +kernel
theorem dX3_begin_32 : decode cX3_begin 32 = .ok (.putfield 46, 3) := by decide +kernel
theorem dX3_begin_35 : decode cX3_begin 35 = .ok (.aload_n 0, 1) := by decide +kernel
theorem dX3_begin_36 : decode cX3_begin 36 = .ok (.iconst 0, 1) := by decide +kernel
theorem dX3_begin_37 : decode cX3_begin 37 = .ok (.putfield 47, 3) := by decide +kernel
theorem dX3_begin_40 : decode cX3_begin 40 = .ok (.aload_n 0, 1) := by decide +kernel
theorem dX3_begin_41 : decode cX3_begin 41 = .ok (.iconst 0, 1) := by decide +kernel
theorem dX3_begin_42 : decode cX3_begin 42 = .ok (.putfield 50, 3) := by decide +kernel
theorem dX3_begin_45 : decode cX3_begin 45 = .ok (.aload_n 0, 1) := by decide +kernel
theorem dX3_begin_46 : decode cX3_begin 46 = .ok (.iconst (-1), 1) := by decide +kernel
theorem dX3_begin_47 : decode cX3_begin 47 = .ok (.putfield 53, 3) := by decide +kernel
theorem dX3_begin_50 : decode cX3_begin 50 = .ok (.aload_n 0, 1) := by decide +kernel
theorem dX3_begin_51 : decode cX3_begin 51 = .ok (.iconst 0, 1) := by decide +kernel
theorem dX3_begin_52 : decode cX3_begin 52 = .ok (.putfield 56, 3) := by decide +kernel
theorem dX3_begin_55 : decode cX3_begin 55 = .ok (.aload_n 0, 1) := by decide +kernel
theorem dX3_begin_56 : decode cX3_begin 56 = .ok (.iconst 0, 1) := by decide +kernel
theorem dX3_begin_57 : decode cX3_begin 57 = .ok (.putfield 59, 3) := by decide +kernel
theorem dX3_begin_60 : decode cX3_begin 60 = .ok (.aload_n 0, 1) := by decide +kernel
theorem dX3_begin_61 : decode cX3_begin 61 = .ok (.iconst 0, 1) := by decide +kernel
theorem dX3_begin_62 : decode cX3_begin 62 = .ok (.putfield 62, 3) := by decide +kernel
theorem dX3_begin_65 : decode cX3_begin 65 = .ok (.aload_n 0, 1) := by decide +kernel
theorem dX3_begin_66 : decode cX3_begin 66 = .ok (.iconst 0, 1) := by decide +kernel
theorem dX3_begin_67 : decode cX3_begin 67 = .ok (.putfield 65, 3) := by decide +kernel
theorem dX3_begin_70 : decode cX3_begin 70 = .ok (.aload_n 0, 1) := by decide +kernel
theorem dX3_begin_71 : decode cX3_begin 71 = .ok (.iconst 0, 1) := by decide +kernel
theorem dX3_begin_72 : decode cX3_begin 72 = .ok (.putfield 68, 3) := by decide +kernel
theorem dX3_begin_75 : decode cX3_begin 75 = .ok (.aload_n 0, 1) := by decide +kernel
theorem dX3_begin_76 : decode cX3_begin 76 = .ok (.iconst 0, 1) := by decide +kernel
theorem dX3_begin_77 : decode cX3_begin 77 = .ok (.putfield 71, 3) := by decide +kernel
theorem dX3_begin_80 : decode cX3_begin 80 = .ok (.aload_n 0, 1) := by decide +kernel
theorem dX3_begin_81 : decode cX3_begin 81 = .ok (.iconst 0, 1) := by decide +kernel
theorem dX3_begin_82 : decode cX3_begin 82 = .ok (.putfield 74, 3) := by decide +kernel
theorem dX3_begin_85 : decode cX3_begin 85 = .ok (.aload_n 0, 1) := by decide +kernel
theorem dX3_begin_86 : decode cX3_begin 86 = .ok (.aconst_null, 1) := by decide +kernel
theorem dX3_begin_87 : decode cX3_begin 87 = .ok (.putfield 77, 3) := by decide +kernel
theorem dX3_begin_90 : decode cX3_begin 90 = .ok (.return_, 1) := by decide +kernel
theorem dX3_copyFrom_0 : decode cX3_copyFrom 0 = .ok (.aload_n 1, 1) := by decide +kernel
theorem dX3_copyFrom_1 : decode cX3_copyFrom 1 = .ok (.getfield 9, 3) := by decide +kernel
theorem dX3_copyFrom_4 : decode cX3_copyFrom 4 = .ok (.aload_n 0, 1) := by decide +kernel
theorem dX3_copyFrom_5 : decode cX3_copyFrom 5 = .ok (.getfield 9, 3) := by decide +kernel
theorem dX3_copyFrom_8 : decode cX3_copyFrom 8 = .ok (.invokestatic 80, 3) := by decide +kernel
theorem dX3_copyFrom_11 : decode cX3_copyFrom 11 = .ok (.aload_n 1, 1) := by decide +kernel
theorem dX3_copyFrom_12 : decode cX3_copyFrom 12 = .ok (.getfield 15, 3) := by decide +kernel
theorem dX3_copyFrom_15 : decode cX3_copyFrom 15 = .ok (.aload_n 0, 1) := by decide +kernel
theorem dX3_copyFrom_16 : decode cX3_copyFrom 16 = .ok (.getfield 15, 3) := by decide +kernel
theorem dX3_copyFrom_19 : decode cX3_copyFrom 19 = .ok (.invokestatic 80, 3) := by decide +kernel
theorem dX3_copyFrom_22 : decode cX3_copyFrom 22 = .ok (.aload_n 1, 1) := by decide +kernel
theorem dX3_copyFrom_23 : decode cX3_copyFrom 23 = .ok (.getfield 18, 3) := by decide +kernel
theorem dX3_copyFrom_26 : decode cX3_copyFrom 26 = .ok (.aload_n 0, 1) := by decide +kernel
theorem dX3_copyFrom_27 : decode cX3_copyFrom 27 = .ok (.getfield 18, 3) := by decide +kernel
theorem dX3_copyFrom_30 : decode cX3_copyFrom 30 = .ok (.invokestatic 80, 3) := by decide +kernel
theorem dX3_copyFrom_33 : decode cX3_copyFrom 33 = .ok (.aload_n 0, 1) := by decide +kernel
theorem dX3_copyFrom_34 : decode cX3_copyFrom 34 = .ok (.aload_n 1, 1) := by decide +kernel
theorem dX3_copyFrom_35 : decode cX3_copyFrom 35 = .ok (.getfield 33, 3) := by decide +kernel
theorem dX3_copyFrom_38 : decode cX3_copyFrom 38 = .ok (.putfield 33, 3) := by decide +kernel
theorem dX3_copyFrom_41 : decode cX3_copyFrom 41 = .ok (.aload_n 0, 1) := by decide +kernel
theorem dX3_copyFrom_42 : decode cX3_copyFrom 42 = .ok (.aload_n 1, 1) := by decide +kernel
theorem dX3_copyFrom_43 : decode cX3_copyFrom 43 = .ok (.getfield 42, 3) := by decide +kernel
theorem dX3_copyFrom_46 : decode cX3_copyFrom 46 = .ok (.putfield 42, 3) := by decide +kernel
theorem dX3_copyFrom_49 : decode cX3_copyFrom 49 = .ok (.aload_n 0, 1) := by decide +kernel
theorem dX3_copyFrom_50 : decode cX3_copyFrom 50 = .ok (.aload_n 1, 1) := by decide +kernel
theorem dX3_copyFrom_51 : decode cX3_copyFrom 51 = .ok (.getfield 46, 3) := by decide +kernel
theorem dX3_copyFrom_54 : decode cX3_copyFrom 54 = .ok (.putfield 46, 3) := by decide +kernel
theorem dX3_copyFrom_57 : decode cX3_copyFrom 57 = .ok (.aload_n 0, 1) := by decide +kernel
theorem dX3_copyFrom_58 : decode cX3_copyFrom 58 = .ok (.aload_n 1, 1) := by decide +kernel
theorem dX3_copyFrom_59 : decode cX3_copyFrom 59 = .ok (.getfield 47, 3) := by decide +kernel
theorem dX3_copyFrom_62 : decode cX3_copyFrom 62 = .ok (.putfield 47, 3) := by decide +kernel
theorem dX3_copyFrom_65 : decode cX3_copyFrom 65 = .ok (.aload_n 0, 1) := by decide +kernel
theorem dX3_copyFrom_66 : decode cX3_copyFrom 66 = .ok (.aload_n 1, 1) := by decide +kernel
theorem dX3_copyFrom_67 : decode cX3_copyFrom 67 = .ok (.getfield 50, 3) := by decide +kernel
theorem dX3_copyFrom_70 : decode cX3_copyFrom 70 = .ok (.putfield 50, 3) := by decide +kernel
theorem dX3_copyFrom_73 : decode cX3_copyFrom 73 = .ok (.aload_n 0, 1) := by decide +kernel
theorem dX3_copyFrom_74 : decode cX3_copyFrom 74 = .ok (.aload_n 1, 1) := by decide +kernel
theorem dX3_copyFrom_75 : decode cX3_copyFrom 75 = .ok (.getfield 53, 3) := by decide +kernel
theorem dX3_copyFrom_78 : decode cX3_copyFrom 78 = .ok (.putfield 53, 3) := by decide +kernel
theorem dX3_copyFrom_81 : decode cX3_copyFrom 81 = .ok (.aload_n 0, 1) := by decide +kernel
theorem dX3_copyFrom_82 : decode cX3_copyFrom 82 = .ok (.aload_n 1, 1) := by decide +kernel
theorem dX3_copyFrom_83 : decode cX3_copyFrom 83 = .ok (.getfield 56, 3) := by decide +kernel
theorem dX3_copyFrom_86 : decode cX3_copyFrom 86 = .ok (.putfield 56, 3) := by decide +kernel
theorem dX3_copyFrom_89 : decode cX3_copyFrom 89 = .ok (.aload_n 0, 1) := by decide +kernel
theorem dX3_copyFrom_90 : decode cX3_copyFrom 90 = .ok (.aload_n 1, 1) := by decide +kernel
theorem dX3_copyFrom_91 : decode cX3_copyFrom 91 = .ok (.getfield 59, 3) := by decide +kernel
theorem dX3_copyFrom_94 : decode cX3_copyFrom 94 = .ok (.putfield 59, 3) := by decide +kernel
theorem dX3_copyFrom_97 : decode cX3_copyFrom 97 = .ok (.aload_n 0, 1) := by decide +kernel
theorem dX3_copyFrom_98 : decode cX3_copyFrom 98 = .ok (.aload_n 1, 1) := by decide +kernel
theorem dX3_copyFrom_99 : decode cX3_copyFrom 99 = .ok (.getfield 62, 3) := by decide +kernel
theorem dX3_copyFrom_102 : decode cX3_copyFrom 102 = .ok (.putfield 62, 3) := by decide +kernel
theorem dX3_copyFrom_105 : decode cX3_copyFrom 105 = .ok (.aload_n 0, 1) := by decide +kernel
theorem dX3_copyFrom_106 : decode cX3_copyFrom 106 = .ok (.aload_n 1, 1) := by decide +kernel
theorem dX3_copyFrom_107 : decode cX3_copyFrom 107 = .ok (.getfield 65, 3) := by decide +kernel
theorem dX3_copyFrom_110 : decode cX3_copyFrom 110 = .ok (.putfield 65, 3) := by decide +kernel
theorem dX3_copyFrom_113 : decode cX3_copyFrom 113 = .ok (.aload_n 0, 1) := by decide +kernel
theorem dX3_copyFrom_114 : decode cX3_copyFrom 114 = .ok (.aload_n 1, 1) := by decide +kernel
theorem dX3_copyFrom_115 : decode cX3_copyFrom 115 = .ok (.getfield 68, 3) := by decide +kernel
theorem dX3_copyFrom_118 : decode cX3_copyFrom 118 = .ok (.putfield 68, 3) := by decide +kernel
theorem dX3_copyFrom_121 : decode cX3_copyFrom 121 = .ok (.aload_n 0, 1) := by decide +kernel
theorem dX3_copyFrom_122 : decode cX3_copyFrom 122 = .ok (.aload_n 1, 1) := by decide +kernel
theorem dX3_copyFrom_123 : decode cX3_copyFrom 123 = .ok (.getfield 71, 3) := by decide +kernel
theorem dX3_copyFrom_126 : decode cX3_copyFrom 126 = .ok (.putfield 71, 3) := by decide +kernel
theorem dX3_copyFrom_129 : decode cX3_copyFrom 129 = .ok (.aload_n 0, 1) := by decide +kernel
theorem dX3_copyFrom_130 : decode cX3_copyFrom 130 = .ok (.aload_n 1, 1) := by decide +kernel
theorem dX3_copyFrom_131 : decode cX3_copyFrom 131 = .ok (.getfield 74, 3) := by decide +kernel
theorem dX3_copyFrom_134 : decode cX3_copyFrom 134 = .ok (.putfield 74, 3) := by decide +kernel
theorem dX3_copyFrom_137 : decode cX3_copyFrom 137 = .ok (.aload_n 0, 1) := by decide +kernel
theorem dX3_copyFrom_138 : decode cX3_copyFrom 138 = .ok (.aconst_null, 1) := by decide +kernel
theorem dX3_copyFrom_139 : decode cX3_copyFrom 139 = .ok (.putfield 77, 3) := by decide +kernel
theorem dX3_copyFrom_142 : decode cX3_copyFrom 142 = .ok (.return_, 1) := by decide +kernel
theorem dX3_isActive_0 : decode cX3_isActive 0 = .ok (.aload_n 0, 1) := by decide +kernel
theorem dX3_isActive_1 : decode cX3_isActive 1 = .ok (.getfield 33, 3) := by decide +kernel
theorem dX3_isActive_4 : decode cX3_isActive 4 = .ok (.iconst 3, 1) := by decide +kernel
theorem dX3_isActive_5 : decode cX3_isActive 5 = .ok (.if_icmp .ge 7, 3) := by decide +kernel
theorem dX3_isActive_8 : decode cX3_isActive 8 = .ok (.iconst 1, 1) := by decide +kernel
theorem dX3_isActive_9 : decode cX3_isActive 9 = .ok (.goto 4, 3) := by decide +kernel
theorem dX3_isActive_12 : decode cX3_isActive 12 = .ok (.iconst 0, 1) := by decide +kernel
theorem dX3_isActive_13 : decode cX3_isActive 13 = .ok (.ireturn, 1) := by decide +kernel
theorem dX3_isLoading_0 : decode cX3_isLoading 0 = .ok (.aload_n 0, 1) := by decide +kernel
theorem dX3_isLoading_1 : decode cX3_isLoading 1 = .ok (.getfield 33, 3) := by decide +kernel
theorem dX3_isLoading_4 : decode cX3_isLoading 4 = .ok (.iconst 3, 1) := by decide +kernel
theorem dX3_isLoading_5 : decode cX3_isLoading 5 = .ok (.if_icmp .ge 15, 3) := by decide +kernel
theorem dX3_isLoading_8 : decode cX3_isLoading 8 = .ok (.aload_n 0, 1) := by decide +kernel
theorem dX3_isLoading_9 : decode cX3_isLoading 9 = .ok (.getfield 53, 3) := by decide +kernel
theorem dX3_isLoading_12 : decode cX3_isLoading 12 = .ok (.iconst (-1), 1) := by decide +kernel
theorem dX3_isLoading_13 : decode cX3_isLoading 13 = .ok (.if_icmp .eq 7, 3) := by decide +kernel
theorem dX3_isLoading_16 : decode cX3_isLoading 16 = .ok (.iconst 1, 1) := by decide +kernel
theorem dX3_isLoading_17 : decode cX3_isLoading 17 = .ok (.goto 4, 3) := by decide +kernel
theorem dX3_isLoading_20 : decode cX3_isLoading 20 = .ok (.iconst 0, 1) := by decide +kernel
theorem dX3_isLoading_21 : decode cX3_isLoading 21 = .ok (.ireturn, 1) := by decide +kernel
theorem dX3_hasAll_0 : decode cX3_hasAll 0 = .ok (.aload_n 0, 1) := by decide +kernel
theorem dX3_hasAll_1 : decode cX3_hasAll 1 = .ok (.getfield 50, 3) := by decide +kernel
theorem dX3_hasAll_4 : decode cX3_hasAll 4 = .ok (.aload_n 0, 1) := by decide +kernel
theorem dX3_hasAll_5 : decode cX3_hasAll 5 = .ok (.getfield 25, 3) := by decide +kernel
theorem dX3_hasAll_8 : decode cX3_hasAll 8 = .ok (.getfield 84, 3) := by decide +kernel
theorem dX3_hasAll_11 : decode cX3_hasAll 11 = .ok (.if_icmp .lt 7, 3) := by decide +kernel
theorem dX3_hasAll_14 : decode cX3_hasAll 14 = .ok (.iconst 1, 1) := by decide +kernel
theorem dX3_hasAll_15 : decode cX3_hasAll 15 = .ok (.goto 4, 3) := by decide +kernel
theorem dX3_hasAll_18 : decode cX3_hasAll 18 = .ok (.iconst 0, 1) := by decide +kernel
theorem dX3_hasAll_19 : decode cX3_hasAll 19 = .ok (.ireturn, 1) := by decide +kernel
theorem dX3_segmentsAsked_0 : decode cX3_segmentsAsked 0 = .ok (.aload_n 0, 1) := by decide +kernel
theorem dX3_segmentsAsked_1 : decode cX3_segmentsAsked 1 = .ok (.getfield 53, 3) := by decide +kernel
theorem dX3_segmentsAsked_4 : decode cX3_segmentsAsked 4 = .ok (.iconst (-1), 1) := by decide +kernel
theorem dX3_segmentsAsked_5 : decode cX3_segmentsAsked 5 = .ok (.if_icmp .ne 10, 3) := by decide +kernel
theorem dX3_segmentsAsked_8 : decode cX3_segmentsAsked 8 = .ok (.aload_n 0, 1) := by decide +kernel
theorem dX3_segmentsAsked_9 : decode cX3_segmentsAsked 9 = .ok (.getfield 50, 3) := by decide +kernel
theorem dX3_segmentsAsked_12 : decode cX3_segmentsAsked 12 = .ok (.goto 9, 3) := by decide +kernel
theorem dX3_segmentsAsked_15 : decode cX3_segmentsAsked 15 = .ok (.aload_n 0, 1) := by decide +kernel
theorem dX3_segmentsAsked_16 : decode cX3_segmentsAsked 16 = .ok (.getfield 50, 3) := by decide +kernel
theorem dX3_segmentsAsked_19 : decode cX3_segmentsAsked 19 = .ok (.iconst 1, 1) := by decide +kernel
theorem dX3_segmentsAsked_20 : decode cX3_segmentsAsked 20 = .ok (.iadd, 1) := by decide +kernel
theorem dX3_segmentsAsked_21 : decode cX3_segmentsAsked 21 = .ok (.ireturn, 1) := by decide +kernel
theorem dX3_segmentsToAsk_0 : decode cX3_segmentsToAsk 0 = .ok (.aload_n 0, 1) := by decide +kernel
theorem dX3_segmentsToAsk_1 : decode cX3_segmentsToAsk 1 = .ok (.getfield 33, 3) := by decide +kernel
theorem dX3_segmentsToAsk_4 : decode cX3_segmentsToAsk 4 = .ok (.iconst 3, 1) := by decide +kernel
theorem dX3_segmentsToAsk_5 : decode cX3_segmentsToAsk 5 = .ok (.if_icmp .ge 18, 3) := by decide +kernel
theorem dX3_segmentsToAsk_8 : decode cX3_segmentsToAsk 8 = .ok (.aload_n 0, 1) := by decide +kernel
theorem dX3_segmentsToAsk_9 : decode cX3_segmentsToAsk 9 = .ok (.getfield 25, 3) := by decide +kernel
theorem dX3_segmentsToAsk_12 : decode cX3_segmentsToAsk 12 = .ok (.getfield 84, 3) := by decide +kernel
theorem dX3_segmentsToAsk_15 : decode cX3_segmentsToAsk 15 = .ok (.aload_n 0, 1) := by decide +kernel
theorem dX3_segmentsToAsk_16 : decode cX3_segmentsToAsk 16 = .ok (.invokevirtual 87, 3) := by decide +kernel
theorem dX3_segmentsToAsk_19 : decode cX3_segmentsToAsk 19 = .ok (.isub, 1) := by decide +kernel
theorem dX3_segmentsToAsk_20 : decode cX3_segmentsToAsk 20 = .ok (.goto 4, 3) := by decide +kernel
theorem dX3_segmentsToAsk_23 : decode cX3_segmentsToAsk 23 = .ok (.iconst 0, 1) := by decide +kernel
theorem dX3_segmentsToAsk_24 : decode cX3_segmentsToAsk 24 = .ok (.ireturn, 1) := by decide +kernel
theorem dX3_canAsk_0 : decode cX3_canAsk 0 = .ok (.aload_n 0, 1) := by decide +kernel
theorem dX3_canAsk_1 : decode cX3_canAsk 1 = .ok (.getfield 33, 3) := by decide +kernel
theorem dX3_canAsk_4 : decode cX3_canAsk 4 = .ok (.iconst 3, 1) := by decide +kernel
theorem dX3_canAsk_5 : decode cX3_canAsk 5 = .ok (.if_icmp .ge 69, 3) := by decide +kernel
theorem dX3_canAsk_8 : decode cX3_canAsk 8 = .ok (.iload_n 1, 1) := by decide +kernel
theorem dX3_canAsk_9 : decode cX3_canAsk 9 = .ok (.aload_n 0, 1) := by decide +kernel
theorem dX3_canAsk_10 : decode cX3_canAsk 10 = .ok (.getfield 25, 3) := by decide +kernel
theorem dX3_canAsk_13 : decode cX3_canAsk 13 = .ok (.getfield 91, 3) := by decide +kernel
theorem dX3_canAsk_16 : decode cX3_canAsk 16 = .ok (.if_icmp .lt 58, 3) := by decide +kernel
theorem dX3_canAsk_19 : decode cX3_canAsk 19 = .ok (.aload_n 0, 1) := by decide +kernel
theorem dX3_canAsk_20 : decode cX3_canAsk 20 = .ok (.getfield 53, 3) := by decide +kernel
theorem dX3_canAsk_23 : decode cX3_canAsk 23 = .ok (.iconst (-1), 1) := by decide +kernel
theorem dX3_canAsk_24 : decode cX3_canAsk 24 = .ok (.if_icmp .ne 50, 3) := by decide +kernel
theorem dX3_canAsk_27 : decode cX3_canAsk 27 = .ok (.aload_n 0, 1) := by decide +kernel
theorem dX3_canAsk_28 : decode cX3_canAsk 28 = .ok (.getfield 50, 3) := by decide +kernel
theorem dX3_canAsk_31 : decode cX3_canAsk 31 = .ok (.aload_n 0, 1) := by decide +kernel
theorem dX3_canAsk_32 : decode cX3_canAsk 32 = .ok (.getfield 25, 3) := by decide +kernel
theorem dX3_canAsk_35 : decode cX3_canAsk 35 = .ok (.getfield 84, 3) := by decide +kernel
theorem dX3_canAsk_38 : decode cX3_canAsk 38 = .ok (.if_icmp .ge 36, 3) := by decide +kernel
theorem dX3_canAsk_41 : decode cX3_canAsk 41 = .ok (.aload_n 0, 1) := by decide +kernel
theorem dX3_canAsk_42 : decode cX3_canAsk 42 = .ok (.getfield 47, 3) := by decide +kernel
theorem dX3_canAsk_45 : decode cX3_canAsk 45 = .ok (.ifCond .eq 25, 3) := by decide +kernel
theorem dX3_canAsk_48 : decode cX3_canAsk 48 = .ok (.aload_n 0, 1) := by decide +kernel
theorem dX3_canAsk_49 : decode cX3_canAsk 49 = .ok (.getfield 47, 3) := by decide +kernel
theorem dX3_canAsk_52 : decode cX3_canAsk 52 = .ok (.aload_n 0, 1) := by decide +kernel
theorem dX3_canAsk_53 : decode cX3_canAsk 53 = .ok (.getfield 21, 3) := by decide +kernel
theorem dX3_canAsk_56 : decode cX3_canAsk 56 = .ok (.getfield 94, 3) := by decide +kernel
theorem dX3_canAsk_59 : decode cX3_canAsk 59 = .ok (.iadd, 1) := by decide +kernel
theorem dX3_canAsk_60 : decode cX3_canAsk 60 = .ok (.aload_n 0, 1) := by decide +kernel
theorem dX3_canAsk_61 : decode cX3_canAsk 61 = .ok (.getfield 21, 3) := by decide +kernel
theorem dX3_canAsk_64 : decode cX3_canAsk 64 = .ok (.getfield 99, 3) := by decide +kernel
theorem dX3_canAsk_67 : decode cX3_canAsk 67 = .ok (.if_icmp .gt 7, 3) := by decide +kernel
theorem dX3_canAsk_70 : decode cX3_canAsk 70 = .ok (.iconst 1, 1) := by decide +kernel
theorem dX3_canAsk_71 : decode cX3_canAsk 71 = .ok (.goto 4, 3) := by decide +kernel
theorem dX3_canAsk_74 : decode cX3_canAsk 74 = .ok (.iconst 0, 1) := by decide +kernel
theorem dX3_canAsk_75 : decode cX3_canAsk 75 = .ok (.ireturn, 1) := by decide +kernel
theorem dX3_ask_0 : decode cX3_ask 0 = .ok (.aload_n 0, 1) := by decide +kernel
theorem dX3_ask_1 : decode cX3_ask 1 = .ok (.iload_n 1, 1) := by decide +kernel
theorem dX3_ask_2 : decode cX3_ask 2 = .ok (.invokevirtual 102, 3) := by decide +kernel
theorem dX3_ask_5 : decode cX3_ask 5 = .ok (.ifCond .eq 35, 3) := by decide +kernel
theorem dX3_ask_8 : decode cX3_ask 8 = .ok (.aload_n 0, 1) := by decide +kernel
theorem dX3_ask_9 : decode cX3_ask 9 = .ok (.aload_n 0, 1) := by decide +kernel
theorem dX3_ask_10 : decode cX3_ask 10 = .ok (.invokevirtual 106, 3) := by decide +kernel
theorem dX3_ask_13 : decode cX3_ask 13 = .ok (.putfield 53, 3) := by decide +kernel
theorem dX3_ask_16 : decode cX3_ask 16 = .ok (.aload_n 0, 1) := by decide +kernel
theorem dX3_ask_17 : decode cX3_ask 17 = .ok (.aload_n 0, 1) := by decide +kernel
theorem dX3_ask_18 : decode cX3_ask 18 = .ok (.getfield 25, 3) := by decide +kernel
theorem dX3_ask_21 : decode cX3_ask 21 = .ok (.aload_n 0, 1) := by decide +kernel
theorem dX3_ask_22 : decode cX3_ask 22 = .ok (.getfield 50, 3) := by decide +kernel
theorem dX3_ask_25 : decode cX3_ask 25 = .ok (.aload_n 0, 1) := by decide +kernel
theorem dX3_ask_26 : decode cX3_ask 26 = .ok (.getfield 53, 3) := by decide +kernel
theorem dX3_ask_29 : decode cX3_ask 29 = .ok (.invokevirtual 109, 3) := by decide +kernel
theorem dX3_ask_32 : decode cX3_ask 32 = .ok (.putfield 56, 3) := by decide +kernel
theorem dX3_ask_35 : decode cX3_ask 35 = .ok (.aload_n 0, 1) := by decide +kernel
theorem dX3_ask_36 : decode cX3_ask 36 = .ok (.iload_n 1, 1) := by decide +kernel
theorem dX3_ask_37 : decode cX3_ask 37 = .ok (.putfield 59, 3) := by decide +kernel
theorem dX3_ask_40 : decode cX3_ask 40 = .ok (.return_, 1) := by decide +kernel
theorem dX3_choose_0 : decode cX3_choose 0 = .ok (.aload_n 0, 1) := by decide +kernel
theorem dX3_choose_1 : decode cX3_choose 1 = .ok (.invokevirtual 87, 3) := by decide +kernel
theorem dX3_choose_4 : decode cX3_choose 4 = .ok (.istore_n 1, 1) := by decide +kernel
theorem dX3_choose_5 : decode cX3_choose 5 = .ok (.aload_n 0, 1) := by decide +kernel
theorem dX3_choose_6 : decode cX3_choose 6 = .ok (.getfield 77, 3) := by decide +kernel
theorem dX3_choose_9 : decode cX3_choose 9 = .ok (.ifnull 19, 3) := by decide +kernel
theorem dX3_choose_12 : decode cX3_choose 12 = .ok (.iload_n 1, 1) := by decide +kernel
theorem dX3_choose_13 : decode cX3_choose 13 = .ok (.aload_n 0, 1) := by decide +kernel
theorem dX3_choose_14 : decode cX3_choose 14 = .ok (.getfield 77, 3) := by decide +kernel
theorem dX3_choose_17 : decode cX3_choose 17 = .ok (.arraylength, 1) := by decide +kernel
theorem dX3_choose_18 : decode cX3_choose 18 = .ok (.if_icmp .ge 10, 3) := by decide +kernel
theorem dX3_choose_21 : decode cX3_choose 21 = .ok (.aload_n 0, 1) := by decide +kernel
theorem dX3_choose_22 : decode cX3_choose 22 = .ok (.getfield 77, 3) := by decide +kernel
theorem dX3_choose_25 : decode cX3_choose 25 = .ok (.iload_n 1, 1) := by decide +kernel
theorem dX3_choose_26 : decode cX3_choose 26 = .ok (.iaload, 1) := by decide +kernel
theorem dX3_choose_27 : decode cX3_choose 27 = .ok (.ireturn, 1) := by decide +kernel
theorem dX3_choose_28 : decode cX3_choose 28 = .ok (.aload_n 0, 1) := by decide +kernel
theorem dX3_choose_29 : decode cX3_choose 29 = .ok (.getfield 42, 3) := by decide +kernel
theorem dX3_choose_32 : decode cX3_choose 32 = .ok (.tableswitch 66 1 3 #[28, 33, 46], 28) := by decide +kernel
theorem dX3_choose_60 : decode cX3_choose 60 = .ok (.aload_n 0, 1) := by decide +kernel
theorem dX3_choose_61 : decode cX3_choose 61 = .ok (.invokevirtual 113, 3) := by decide +kernel
theorem dX3_choose_64 : decode cX3_choose 64 = .ok (.ireturn, 1) := by decide +kernel
theorem dX3_choose_65 : decode cX3_choose 65 = .ok (.aload_n 0, 1) := by decide +kernel
theorem dX3_choose_66 : decode cX3_choose 66 = .ok (.getfield 25, 3) := by decide +kernel
theorem dX3_choose_69 : decode cX3_choose 69 = .ok (.iload_n 1, 1) := by decide +kernel
theorem dX3_choose_70 : decode cX3_choose 70 = .ok (.aload_n 0, 1) := by decide +kernel
theorem dX3_choose_71 : decode cX3_choose 71 = .ok (.invokevirtual 116, 3) := by decide +kernel
theorem dX3_choose_74 : decode cX3_choose 74 = .ok (.invokevirtual 119, 3) := by decide +kernel
theorem dX3_choose_77 : decode cX3_choose 77 = .ok (.ireturn, 1) := by decide +kernel
theorem dX3_choose_78 : decode cX3_choose 78 = .ok (.aload_n 0, 1) := by decide +kernel
theorem dX3_choose_79 : decode cX3_choose 79 = .ok (.invokevirtual 113, 3) := by decide +kernel
theorem dX3_choose_82 : decode cX3_choose 82 = .ok (.aload_n 0, 1) := by decide +kernel
theorem dX3_choose_83 : decode cX3_choose 83 = .ok (.getfield 25, 3) := by decide +kernel
theorem dX3_choose_86 : decode cX3_choose 86 = .ok (.iload_n 1, 1) := by decide +kernel
theorem dX3_choose_87 : decode cX3_choose 87 = .ok (.aload_n 0, 1) := by decide +kernel
theorem dX3_choose_88 : decode cX3_choose 88 = .ok (.invokevirtual 116, 3) := by decide +kernel
theorem dX3_choose_91 : decode cX3_choose 91 = .ok (.invokevirtual 119, 3) := by decide +kernel
theorem dX3_choose_94 : decode cX3_choose 94 = .ok (.invokestatic 122, 3) := by decide +kernel
theorem dX3_choose_97 : decode cX3_choose 97 = .ok (.ireturn, 1) := by decide +kernel
theorem dX3_choose_98 : decode cX3_choose 98 = .ok (.iconst 0, 1) := by decide +kernel
theorem dX3_choose_99 : decode cX3_choose 99 = .ok (.ireturn, 1) := by decide +kernel
theorem dX3_byBuffer_0 : decode cX3_byBuffer 0 = .ok (.aload_n 0, 1) := by decide +kernel
theorem dX3_byBuffer_1 : decode cX3_byBuffer 1 = .ok (.getfield 25, 3) := by decide +kernel
theorem dX3_byBuffer_4 : decode cX3_byBuffer 4 = .ok (.getfield 127, 3) := by decide +kernel
theorem dX3_byBuffer_7 : decode cX3_byBuffer 7 = .ok (.iconst 1, 1) := by decide +kernel
theorem dX3_byBuffer_8 : decode cX3_byBuffer 8 = .ok (.isub, 1) := by decide +kernel
theorem dX3_byBuffer_9 : decode cX3_byBuffer 9 = .ok (.istore_n 1, 1) := by decide +kernel
theorem dX3_byBuffer_10 : decode cX3_byBuffer 10 = .ok (.aload_n 0, 1) := by decide +kernel
theorem dX3_byBuffer_11 : decode cX3_byBuffer 11 = .ok (.getfield 21, 3) := by decide +kernel
theorem dX3_byBuffer_14 : decode cX3_byBuffer 14 = .ok (.getfield 99, 3) := by decide +kernel
theorem dX3_byBuffer_17 : decode cX3_byBuffer 17 = .ok (.ifCond .le 26, 3) := by decide +kernel
theorem dX3_byBuffer_20 : decode cX3_byBuffer 20 = .ok (.aload_n 0, 1) := by decide +kernel
theorem dX3_byBuffer_21 : decode cX3_byBuffer 21 = .ok (.getfield 47, 3) := by decide +kernel
theorem dX3_byBuffer_24 : decode cX3_byBuffer 24 = .ok (.aload_n 0, 1) := by decide +kernel
theorem dX3_byBuffer_25 : decode cX3_byBuffer 25 = .ok (.getfield 25, 3) := by decide +kernel
theorem dX3_byBuffer_28 : decode cX3_byBuffer 28 = .ok (.getfield 127, 3) := by decide +kernel
theorem dX3_byBuffer_31 : decode cX3_byBuffer 31 = .ok (.imul, 1) := by decide +kernel
theorem dX3_byBuffer_32 : decode cX3_byBuffer 32 = .ok (.aload_n 0, 1) := by decide +kernel
theorem dX3_byBuffer_33 : decode cX3_byBuffer 33 = .ok (.getfield 21, 3) := by decide +kernel
theorem dX3_byBuffer_36 : decode cX3_byBuffer 36 = .ok (.getfield 99, 3) := by decide +kernel
theorem dX3_byBuffer_39 : decode cX3_byBuffer 39 = .ok (.idiv, 1) := by decide +kernel
theorem dX3_byBuffer_40 : decode cX3_byBuffer 40 = .ok (.goto 4, 3) := by decide +kernel
theorem dX3_byBuffer_43 : decode cX3_byBuffer 43 = .ok (.iconst 0, 1) := by decide +kernel
theorem dX3_byBuffer_44 : decode cX3_byBuffer 44 = .ok (.istore_n 2, 1) := by decide +kernel
theorem dX3_byBuffer_45 : decode cX3_byBuffer 45 = .ok (.iload_n 2, 1) := by decide +kernel
theorem dX3_byBuffer_46 : decode cX3_byBuffer 46 = .ok (.iload_n 1, 1) := by decide +kernel
theorem dX3_byBuffer_47 : decode cX3_byBuffer 47 = .ok (.if_icmp .ge 7, 3) := by decide +kernel
theorem dX3_byBuffer_50 : decode cX3_byBuffer 50 = .ok (.iload_n 2, 1) := by decide +kernel
theorem dX3_byBuffer_51 : decode cX3_byBuffer 51 = .ok (.goto 4, 3) := by decide +kernel
theorem dX3_byBuffer_54 : decode cX3_byBuffer 54 = .ok (.iload_n 1, 1) := by decide +kernel
theorem dX3_byBuffer_55 : decode cX3_byBuffer 55 = .ok (.ireturn, 1) := by decide +kernel
theorem dX3_budget_0 : decode cX3_budget 0 = .ok (.aload_n 0, 1) := by decide +kernel
theorem dX3_budget_1 : decode cX3_budget 1 = .ok (.getfield 74, 3) := by decide +kernel
theorem dX3_budget_4 : decode cX3_budget 4 = .ok (.aload_n 0, 1) := by decide +kernel
theorem dX3_budget_5 : decode cX3_budget 5 = .ok (.getfield 21, 3) := by decide +kernel
theorem dX3_budget_8 : decode cX3_budget 8 = .ok (.getfield 94, 3) := by decide +kernel
theorem dX3_budget_11 : decode cX3_budget 11 = .ok (.imul, 1) := by decide +kernel
theorem dX3_budget_12 : decode cX3_budget 12 = .ok (.aload_n 0, 1) := by decide +kernel
theorem dX3_budget_13 : decode cX3_budget 13 = .ok (.getfield 21, 3) := by decide +kernel
theorem dX3_budget_16 : decode cX3_budget 16 = .ok (.getfield 129, 3) := by decide +kernel
theorem dX3_budget_19 : decode cX3_budget 19 = .ok (.imul, 1) := by decide +kernel
theorem dX3_budget_20 : decode cX3_budget 20 = .ok (.ireturn, 1) := by decide +kernel
theorem dX3_take_0 : decode cX3_take 0 = .ok (.aload_n 0, 1) := by decide +kernel
theorem dX3_take_1 : decode cX3_take 1 = .ok (.dup, 1) := by decide +kernel
theorem dX3_take_2 : decode cX3_take 2 = .ok (.getfield 56, 3) := by decide +kernel
theorem dX3_take_5 : decode cX3_take 5 = .ok (.iload_n 1, 1) := by decide +kernel
theorem dX3_take_6 : decode cX3_take 6 = .ok (.isub, 1) := by decide +kernel
theorem dX3_take_7 : decode cX3_take 7 = .ok (.putfield 56, 3) := by decide +kernel
theorem dX3_take_10 : decode cX3_take 10 = .ok (.aload_n 0, 1) := by decide +kernel
theorem dX3_take_11 : decode cX3_take 11 = .ok (.dup, 1) := by decide +kernel
theorem dX3_take_12 : decode cX3_take 12 = .ok (.getfield 71, 3) := by decide +kernel
theorem dX3_take_15 : decode cX3_take 15 = .ok (.iload_n 1, 1) := by decide +kernel
theorem dX3_take_16 : decode cX3_take 16 = .ok (.iadd, 1) := by decide +kernel
theorem dX3_take_17 : decode cX3_take 17 = .ok (.putfield 71, 3) := by decide +kernel
theorem dX3_take_20 : decode cX3_take 20 = .ok (.return_, 1) := by decide +kernel
theorem dX3_finishLoad_0 : decode cX3_finishLoad 0 = .ok (.aload_n 0, 1) := by decide +kernel
theorem dX3_finishLoad_1 : decode cX3_finishLoad 1 = .ok (.invokevirtual 132, 3) := by decide +kernel
theorem dX3_finishLoad_4 : decode cX3_finishLoad 4 = .ok (.ifCond .eq 19, 3) := by decide +kernel
theorem dX3_finishLoad_7 : decode cX3_finishLoad 7 = .ok (.aload_n 0, 1) := by decide +kernel
theorem dX3_finishLoad_8 : decode cX3_finishLoad 8 = .ok (.getfield 56, 3) := by decide +kernel
theorem dX3_finishLoad_11 : decode cX3_finishLoad 11 = .ok (.ifCond .gt 12, 3) := by decide +kernel
theorem dX3_finishLoad_14 : decode cX3_finishLoad 14 = .ok (.aload_n 0, 1) := by decide +kernel
theorem dX3_finishLoad_15 : decode cX3_finishLoad 15 = .ok (.getfield 50, 3) := by decide +kernel
theorem dX3_finishLoad_18 : decode cX3_finishLoad 18 = .ok (.bipush 30, 2) := by decide +kernel
theorem dX3_finishLoad_20 : decode cX3_finishLoad 20 = .ok (.if_icmp .lt 4, 3) := by decide +kernel
theorem dX3_finishLoad_23 : decode cX3_finishLoad 23 = .ok (.return_, 1) := by decide +kernel
theorem dX3_finishLoad_24 : decode cX3_finishLoad 24 = .ok (.aload_n 0, 1) := by decide +kernel
theorem dX3_finishLoad_25 : decode cX3_finishLoad 25 = .ok (.getfield 9, 3) := by decide +kernel
theorem dX3_finishLoad_28 : decode cX3_finishLoad 28 = .ok (.aload_n 0, 1) := by decide +kernel
theorem dX3_finishLoad_29 : decode cX3_finishLoad 29 = .ok (.getfield 50, 3) := by decide +kernel
theorem dX3_finishLoad_32 : decode cX3_finishLoad 32 = .ok (.aload_n 0, 1) := by decide +kernel
theorem dX3_finishLoad_33 : decode cX3_finishLoad 33 = .ok (.getfield 53, 3) := by decide +kernel
theorem dX3_finishLoad_36 : decode cX3_finishLoad 36 = .ok (.iastore, 1) := by decide +kernel
theorem dX3_finishLoad_37 : decode cX3_finishLoad 37 = .ok (.aload_n 0, 1) := by decide +kernel
theorem dX3_finishLoad_38 : decode cX3_finishLoad 38 = .ok (.getfield 15, 3) := by decide +kernel
theorem dX3_finishLoad_41 : decode cX3_finishLoad 41 = .ok (.aload_n 0, 1) := by decide +kernel
theorem dX3_finishLoad_42 : decode cX3_finishLoad 42 = .ok (.getfield 50, 3) := by decide +kernel
theorem dX3_finishLoad_45 : decode cX3_finishLoad 45 = .ok (.aload_n 0, 1) := by decide +kernel
theorem dX3_finishLoad_46 : decode cX3_finishLoad 46 = .ok (.getfield 59, 3) := by decide +kernel
theorem dX3_finishLoad_49 : decode cX3_finishLoad 49 = .ok (.iastore, 1) := by decide +kernel
theorem dX3_finishLoad_50 : decode cX3_finishLoad 50 = .ok (.aload_n 0, 1) := by decide +kernel
theorem dX3_finishLoad_51 : decode cX3_finishLoad 51 = .ok (.getfield 18, 3) := by decide +kernel
theorem dX3_finishLoad_54 : decode cX3_finishLoad 54 = .ok (.aload_n 0, 1) := by decide +kernel
theorem dX3_finishLoad_55 : decode cX3_finishLoad 55 = .ok (.getfield 50, 3) := by decide +kernel
theorem dX3_finishLoad_58 : decode cX3_finishLoad 58 = .ok (.iload_n 1, 1) := by decide +kernel
theorem dX3_finishLoad_59 : decode cX3_finishLoad 59 = .ok (.iastore, 1) := by decide +kernel
theorem dX3_finishLoad_60 : decode cX3_finishLoad 60 = .ok (.iload_n 1, 1) := by decide +kernel
theorem dX3_finishLoad_61 : decode cX3_finishLoad 61 = .ok (.aload_n 0, 1) := by decide +kernel
theorem dX3_finishLoad_62 : decode cX3_finishLoad 62 = .ok (.getfield 59, 3) := by decide +kernel
theorem dX3_finishLoad_65 : decode cX3_finishLoad 65 = .ok (.isub, 1) := by decide +kernel
theorem dX3_finishLoad_66 : decode cX3_finishLoad 66 = .ok (.iconst 1, 1) := by decide +kernel
theorem dX3_finishLoad_67 : decode cX3_finishLoad 67 = .ok (.iadd, 1) := by decide +kernel
theorem dX3_finishLoad_68 : decode cX3_finishLoad 68 = .ok (.istore_n 2, 1) := by decide +kernel
theorem dX3_finishLoad_69 : decode cX3_finishLoad 69 = .ok (.aload_n 0, 1) := by decide +kernel
theorem dX3_finishLoad_70 : decode cX3_finishLoad 70 = .ok (.iload_n 2, 1) := by decide +kernel
theorem dX3_finishLoad_71 : decode cX3_finishLoad 71 = .ok (.ifCond .le 23, 3) := by decide +kernel
theorem dX3_finishLoad_74 : decode cX3_finishLoad 74 = .ok (.aload_n 0, 1) := by decide +kernel
theorem dX3_finishLoad_75 : decode cX3_finishLoad 75 = .ok (.getfield 25, 3) := by decide +kernel
theorem dX3_finishLoad_78 : decode cX3_finishLoad 78 = .ok (.aload_n 0, 1) := by decide +kernel
theorem dX3_finishLoad_79 : decode cX3_finishLoad 79 = .ok (.getfield 50, 3) := by decide +kernel
theorem dX3_finishLoad_82 : decode cX3_finishLoad 82 = .ok (.aload_n 0, 1) := by decide +kernel
theorem dX3_finishLoad_83 : decode cX3_finishLoad 83 = .ok (.getfield 53, 3) := by decide +kernel
theorem dX3_finishLoad_86 : decode cX3_finishLoad 86 = .ok (.invokevirtual 109, 3) := by decide +kernel
theorem dX3_finishLoad_89 : decode cX3_finishLoad 89 = .ok (.iload_n 2, 1) := by decide +kernel
theorem dX3_finishLoad_90 : decode cX3_finishLoad 90 = .ok (.idiv, 1) := by decide +kernel
theorem dX3_finishLoad_91 : decode cX3_finishLoad 91 = .ok (.goto 4, 3) := by decide +kernel
theorem dX3_finishLoad_94 : decode cX3_finishLoad 94 = .ok (.iconst 0, 1) := by decide +kernel
theorem dX3_finishLoad_95 : decode cX3_finishLoad 95 = .ok (.putfield 74, 3) := by decide +kernel
theorem dX3_finishLoad_98 : decode cX3_finishLoad 98 = .ok (.aload_n 0, 1) := by decide +kernel
theorem dX3_finishLoad_99 : decode cX3_finishLoad 99 = .ok (.dup, 1) := by decide +kernel
theorem dX3_finishLoad_100 : decode cX3_finishLoad 100 = .ok (.getfield 50, 3) := by decide +kernel
theorem dX3_finishLoad_103 : decode cX3_finishLoad 103 = .ok (.iconst 1, 1) := by decide +kernel
theorem dX3_finishLoad_104 : decode cX3_finishLoad 104 = .ok (.iadd, 1) := by decide +kernel
theorem dX3_finishLoad_105 : decode cX3_finishLoad 105 = .ok (.putfield 50, 3) := by decide +kernel
theorem dX3_finishLoad_108 : decode cX3_finishLoad 108 = .ok (.aload_n 0, 1) := by decide +kernel
theorem dX3_finishLoad_109 : decode cX3_finishLoad 109 = .ok (.iconst (-1), 1) := by decide +kernel
theorem dX3_finishLoad_110 : decode cX3_finishLoad 110 = .ok (.putfield 53, 3) := by decide +kernel
theorem dX3_finishLoad_113 : decode cX3_finishLoad 113 = .ok (.aload_n 0, 1) := by decide +kernel
theorem dX3_finishLoad_114 : decode cX3_finishLoad 114 = .ok (.dup, 1) := by decide +kernel
theorem dX3_finishLoad_115 : decode cX3_finishLoad 115 = .ok (.getfield 47, 3) := by decide +kernel
theorem dX3_finishLoad_118 : decode cX3_finishLoad 118 = .ok (.aload_n 0, 1) := by decide +kernel
theorem dX3_finishLoad_119 : decode cX3_finishLoad 119 = .ok (.getfield 21, 3) := by decide +kernel
theorem dX3_finishLoad_122 : decode cX3_finishLoad 122 = .ok (.getfield 94, 3) := by decide +kernel
theorem dX3_finishLoad_125 : decode cX3_finishLoad 125 = .ok (.iadd, 1) := by decide +kernel
theorem dX3_finishLoad_126 : decode cX3_finishLoad 126 = .ok (.putfield 47, 3) := by decide +kernel
theorem dX3_finishLoad_129 : decode cX3_finishLoad 129 = .ok (.return_, 1) := by decide +kernel
theorem dX3_play_0 : decode cX3_play 0 = .ok (.aload_n 0, 1) := by decide +kernel
theorem dX3_play_1 : decode cX3_play 1 = .ok (.getfield 33, 3) := by decide +kernel
theorem dX3_play_4 : decode cX3_play 4 = .ok (.iconst 3, 1) := by decide +kernel
theorem dX3_play_5 : decode cX3_play 5 = .ok (.if_icmp .ge 14, 3) := by decide +kernel
theorem dX3_play_8 : decode cX3_play 8 = .ok (.iload_n 1, 1) := by decide +kernel
theorem dX3_play_9 : decode cX3_play 9 = .ok (.aload_n 0, 1) := by decide +kernel
theorem dX3_play_10 : decode cX3_play 10 = .ok (.getfield 25, 3) := by decide +kernel
theorem dX3_play_13 : decode cX3_play 13 = .ok (.getfield 91, 3) := by decide +kernel
theorem dX3_play_16 : decode cX3_play 16 = .ok (.if_icmp .ge 4, 3) := by decide +kernel
theorem dX3_play_19 : decode cX3_play 19 = .ok (.return_, 1) := by decide +kernel
theorem dX3_play_20 : decode cX3_play 20 = .ok (.aload_n 0, 1) := by decide +kernel
theorem dX3_play_21 : decode cX3_play 21 = .ok (.getfield 47, 3) := by decide +kernel
theorem dX3_play_24 : decode cX3_play 24 = .ok (.aload_n 0, 1) := by decide +kernel
theorem dX3_play_25 : decode cX3_play 25 = .ok (.getfield 21, 3) := by decide +kernel
theorem dX3_play_28 : decode cX3_play 28 = .ok (.getfield 136, 3) := by decide +kernel
theorem dX3_play_31 : decode cX3_play 31 = .ok (.if_icmp .ge 10, 3) := by decide +kernel
theorem dX3_play_34 : decode cX3_play 34 = .ok (.aload_n 0, 1) := by decide +kernel
theorem dX3_play_35 : decode cX3_play 35 = .ok (.invokevirtual 139, 3) := by decide +kernel
theorem dX3_play_38 : decode cX3_play 38 = .ok (.ifCond .eq 8, 3) := by decide +kernel
theorem dX3_play_41 : decode cX3_play 41 = .ok (.aload_n 0, 1) := by decide +kernel
theorem dX3_play_42 : decode cX3_play 42 = .ok (.iconst 1, 1) := by decide +kernel
theorem dX3_play_43 : decode cX3_play 43 = .ok (.putfield 33, 3) := by decide +kernel
theorem dX3_play_46 : decode cX3_play 46 = .ok (.aload_n 0, 1) := by decide +kernel
theorem dX3_play_47 : decode cX3_play 47 = .ok (.getfield 33, 3) := by decide +kernel
theorem dX3_play_50 : decode cX3_play 50 = .ok (.iconst 1, 1) := by decide +kernel
theorem dX3_play_51 : decode cX3_play 51 = .ok (.if_icmp .ne 55, 3) := by decide +kernel
theorem dX3_play_54 : decode cX3_play 54 = .ok (.aload_n 0, 1) := by decide +kernel
theorem dX3_play_55 : decode cX3_play 55 = .ok (.getfield 47, 3) := by decide +kernel
theorem dX3_play_58 : decode cX3_play 58 = .ok (.ifCond .le 26, 3) := by decide +kernel
theorem dX3_play_61 : decode cX3_play 61 = .ok (.aload_n 0, 1) := by decide +kernel
theorem dX3_play_62 : decode cX3_play 62 = .ok (.dup, 1) := by decide +kernel
theorem dX3_play_63 : decode cX3_play 63 = .ok (.getfield 47, 3) := by decide +kernel
theorem dX3_play_66 : decode cX3_play 66 = .ok (.iconst 1, 1) := by decide +kernel
theorem dX3_play_67 : decode cX3_play 67 = .ok (.isub, 1) := by decide +kernel
theorem dX3_play_68 : decode cX3_play 68 = .ok (.putfield 47, 3) := by decide +kernel
theorem dX3_play_71 : decode cX3_play 71 = .ok (.aload_n 0, 1) := by decide +kernel
theorem dX3_play_72 : decode cX3_play 72 = .ok (.dup, 1) := by decide +kernel
theorem dX3_play_73 : decode cX3_play 73 = .ok (.getfield 62, 3) := by decide +kernel
theorem dX3_play_76 : decode cX3_play 76 = .ok (.iconst 1, 1) := by decide +kernel
theorem dX3_play_77 : decode cX3_play 77 = .ok (.iadd, 1) := by decide +kernel
theorem dX3_play_78 : decode cX3_play 78 = .ok (.putfield 62, 3) := by decide +kernel
theorem dX3_play_81 : decode cX3_play 81 = .ok (.goto 25, 3) := by decide +kernel
theorem dX3_play_84 : decode cX3_play 84 = .ok (.aload_n 0, 1) := by decide +kernel
theorem dX3_play_85 : decode cX3_play 85 = .ok (.invokevirtual 139, 3) := by decide +kernel
theorem dX3_play_88 : decode cX3_play 88 = .ok (.ifCond .ne 18, 3) := by decide +kernel
theorem dX3_play_91 : decode cX3_play 91 = .ok (.aload_n 0, 1) := by decide +kernel
theorem dX3_play_92 : decode cX3_play 92 = .ok (.iconst 2, 1) := by decide +kernel
theorem dX3_play_93 : decode cX3_play 93 = .ok (.putfield 33, 3) := by decide +kernel
theorem dX3_play_96 : decode cX3_play 96 = .ok (.aload_n 0, 1) := by decide +kernel
theorem dX3_play_97 : decode cX3_play 97 = .ok (.dup, 1) := by decide +kernel
theorem dX3_play_98 : decode cX3_play 98 = .ok (.getfield 68, 3) := by decide +kernel
theorem dX3_play_101 : decode cX3_play 101 = .ok (.iconst 1, 1) := by decide +kernel
theorem dX3_play_102 : decode cX3_play 102 = .ok (.iadd, 1) := by decide +kernel
theorem dX3_play_103 : decode cX3_play 103 = .ok (.putfield 68, 3) := by decide +kernel
theorem dX3_play_106 : decode cX3_play 106 = .ok (.aload_n 0, 1) := by decide +kernel
theorem dX3_play_107 : decode cX3_play 107 = .ok (.getfield 33, 3) := by decide +kernel
theorem dX3_play_110 : decode cX3_play 110 = .ok (.iconst 2, 1) := by decide +kernel
theorem dX3_play_111 : decode cX3_play 111 = .ok (.if_icmp .ne 13, 3) := by decide +kernel
theorem dX3_play_114 : decode cX3_play 114 = .ok (.aload_n 0, 1) := by decide +kernel
theorem dX3_play_115 : decode cX3_play 115 = .ok (.dup, 1) := by decide +kernel
theorem dX3_play_116 : decode cX3_play 116 = .ok (.getfield 65, 3) := by decide +kernel
theorem dX3_play_119 : decode cX3_play 119 = .ok (.iconst 1, 1) := by decide +kernel
theorem dX3_play_120 : decode cX3_play 120 = .ok (.iadd, 1) := by decide +kernel
theorem dX3_play_121 : decode cX3_play 121 = .ok (.putfield 65, 3) := by decide +kernel
theorem dX3_play_124 : decode cX3_play 124 = .ok (.aload_n 0, 1) := by decide +kernel
theorem dX3_play_125 : decode cX3_play 125 = .ok (.invokevirtual 139, 3) := by decide +kernel
theorem dX3_play_128 : decode cX3_play 128 = .ok (.ifCond .eq 15, 3) := by decide +kernel
theorem dX3_play_131 : decode cX3_play 131 = .ok (.aload_n 0, 1) := by decide +kernel
theorem dX3_play_132 : decode cX3_play 132 = .ok (.getfield 47, 3) := by decide +kernel
theorem dX3_play_135 : decode cX3_play 135 = .ok (.ifCond .ne 8, 3) := by decide +kernel
theorem dX3_play_138 : decode cX3_play 138 = .ok (.aload_n 0, 1) := by decide +kernel
theorem dX3_play_139 : decode cX3_play 139 = .ok (.iconst 3, 1) := by decide +kernel
theorem dX3_play_140 : decode cX3_play 140 = .ok (.putfield 33, 3) := by decide +kernel
theorem dX3_play_143 : decode cX3_play 143 = .ok (.return_, 1) := by decide +kernel
theorem dX3_bytesOfLoad_0 : decode cX3_bytesOfLoad 0 = .ok (.aload_n 0, 1) := by decide +kernel
theorem dX3_bytesOfLoad_1 : decode cX3_bytesOfLoad 1 = .ok (.getfield 53, 3) := by decide +kernel
theorem dX3_bytesOfLoad_4 : decode cX3_bytesOfLoad 4 = .ok (.iconst (-1), 1) := by decide +kernel
theorem dX3_bytesOfLoad_5 : decode cX3_bytesOfLoad 5 = .ok (.if_icmp .ne 7, 3) := by decide +kernel
theorem dX3_bytesOfLoad_8 : decode cX3_bytesOfLoad 8 = .ok (.iconst 0, 1) := by decide +kernel
theorem dX3_bytesOfLoad_9 : decode cX3_bytesOfLoad 9 = .ok (.goto 23, 3) := by decide +kernel
theorem dX3_bytesOfLoad_12 : decode cX3_bytesOfLoad 12 = .ok (.aload_n 0, 1) := by decide +kernel
theorem dX3_bytesOfLoad_13 : decode cX3_bytesOfLoad 13 = .ok (.getfield 25, 3) := by decide +kernel
theorem dX3_bytesOfLoad_16 : decode cX3_bytesOfLoad 16 = .ok (.aload_n 0, 1) := by decide +kernel
theorem dX3_bytesOfLoad_17 : decode cX3_bytesOfLoad 17 = .ok (.getfield 50, 3) := by decide +kernel
theorem dX3_bytesOfLoad_20 : decode cX3_bytesOfLoad 20 = .ok (.aload_n 0, 1) := by decide +kernel
theorem dX3_bytesOfLoad_21 : decode cX3_bytesOfLoad 21 = .ok (.getfield 53, 3) := by decide +kernel
theorem dX3_bytesOfLoad_24 : decode cX3_bytesOfLoad 24 = .ok (.invokevirtual 109, 3) := by decide +kernel
theorem dX3_bytesOfLoad_27 : decode cX3_bytesOfLoad 27 = .ok (.aload_n 0, 1) := by decide +kernel
theorem dX3_bytesOfLoad_28 : decode cX3_bytesOfLoad 28 = .ok (.getfield 56, 3) := by decide +kernel
theorem dX3_bytesOfLoad_31 : decode cX3_bytesOfLoad 31 = .ok (.isub, 1) := by decide +kernel
theorem dX3_bytesOfLoad_32 : decode cX3_bytesOfLoad 32 = .ok (.ireturn, 1) := by decide +kernel
theorem dX3_countSwitches_0 : decode cX3_countSwitches 0 = .ok (.iconst 0, 1) := by decide +kernel
theorem dX3_countSwitches_1 : decode cX3_countSwitches 1 = .ok (.istore_n 1, 1) := by decide +kernel
theorem dX3_countSwitches_2 : decode cX3_countSwitches 2 = .ok (.iconst 1, 1) := by decide +kernel
theorem dX3_countSwitches_3 : decode cX3_countSwitches 3 = .ok (.istore_n 2, 1) := by decide +kernel
theorem dX3_countSwitches_4 : decode cX3_countSwitches 4 = .ok (.iload_n 2, 1) := by decide +kernel
theorem dX3_countSwitches_5 : decode cX3_countSwitches 5 = .ok (.aload_n 0, 1) := by decide +kernel
theorem dX3_countSwitches_6 : decode cX3_countSwitches 6 = .ok (.getfield 50, 3) := by decide +kernel
theorem dX3_countSwitches_9 : decode cX3_countSwitches 9 = .ok (.if_icmp .ge 38, 3) := by decide +kernel
theorem dX3_countSwitches_12 : decode cX3_countSwitches 12 = .ok (.iload_n 2, 1) := by decide +kernel
theorem dX3_countSwitches_13 : decode cX3_countSwitches 13 = .ok (.aload_n 0, 1) := by decide +kernel
theorem dX3_countSwitches_14 : decode cX3_countSwitches 14 = .ok (.getfield 9, 3) := by decide +kernel
theorem dX3_countSwitches_17 : decode cX3_countSwitches 17 = .ok (.arraylength, 1) := by decide +kernel
theorem dX3_countSwitches_18 : decode cX3_countSwitches 18 = .ok (.if_icmp .ge 29, 3) := by decide +kernel
theorem dX3_countSwitches_21 : decode cX3_countSwitches 21 = .ok (.aload_n 0, 1) := by decide +kernel
theorem dX3_countSwitches_22 : decode cX3_countSwitches 22 = .ok (.getfield 9, 3) := by decide +kernel
theorem dX3_countSwitches_25 : decode cX3_countSwitches 25 = .ok (.iload_n 2, 1) := by decide +kernel
theorem dX3_countSwitches_26 : decode cX3_countSwitches 26 = .ok (.iaload, 1) := by decide +kernel
theorem dX3_countSwitches_27 : decode cX3_countSwitches 27 = .ok (.aload_n 0, 1) := by decide +kernel
theorem dX3_countSwitches_28 : decode cX3_countSwitches 28 = .ok (.getfield 9, 3) := by decide +kernel
theorem dX3_countSwitches_31 : decode cX3_countSwitches 31 = .ok (.iload_n 2, 1) := by decide +kernel
theorem dX3_countSwitches_32 : decode cX3_countSwitches 32 = .ok (.iconst 1, 1) := by decide +kernel
theorem dX3_countSwitches_33 : decode cX3_countSwitches 33 = .ok (.isub, 1) := by decide +kernel
theorem dX3_countSwitches_34 : decode cX3_countSwitches 34 = .ok (.iaload, 1) := by decide +kernel
theorem dX3_countSwitches_35 : decode cX3_countSwitches 35 = .ok (.if_icmp .eq 6, 3) := by decide +kernel
theorem dX3_countSwitches_38 : decode cX3_countSwitches 38 = .ok (.iinc 1 1, 3) := by decide +kernel
theorem dX3_countSwitches_41 : decode cX3_countSwitches 41 = .ok (.iinc 2 1, 3) := by decide +kernel
theorem dX3_countSwitches_44 : decode cX3_countSwitches 44 = .ok (.goto (-40), 3) := by decide +kernel
theorem dX3_countSwitches_47 : decode cX3_countSwitches 47 = .ok (.iload_n 1, 1) := by decide +kernel
theorem dX3_countSwitches_48 : decode cX3_countSwitches 48 = .ok (.ireturn, 1) := by decide +kernel
theorem dX3_sumOfQualities_0 : decode cX3_sumOfQualities 0 = .ok (.iconst 0, 1) := by decide +kernel
theorem dX3_sumOfQualities_1 : decode cX3_sumOfQualities 1 = .ok (.istore_n 1, 1) := by decide +kernel
theorem dX3_sumOfQualities_2 : decode cX3_sumOfQualities 2 = .ok (.iconst 0, 1) := by decide +kernel
theorem dX3_sumOfQualities_3 : decode cX3_sumOfQualities 3 = .ok (.istore_n 2, 1) := by decide +kernel
theorem dX3_sumOfQualities_4 : decode cX3_sumOfQualities 4 = .ok (.iload_n 2, 1) := by decide +kernel
theorem dX3_sumOfQualities_5 : decode cX3_sumOfQualities 5 = .ok (.aload_n 0, 1) := by decide +kernel
theorem dX3_sumOfQualities_6 : decode cX3_sumOfQualities 6 = .ok (.getfield 50, 3) := by decide +kernel
theorem dX3_sumOfQualities_9 : decode cX3_sumOfQualities 9 = .ok (.if_icmp .ge 27, 3) := by decide +kernel
theorem dX3_sumOfQualities_12 : decode cX3_sumOfQualities 12 = .ok (.iload_n 2, 1) := by decide +kernel
theorem dX3_sumOfQualities_13 : decode cX3_sumOfQualities 13 = .ok (.aload_n 0, 1) := by decide +kernel
theorem dX3_sumOfQualities_14 : decode cX3_sumOfQualities 14 = .ok (.getfield 9, 3) := by decide +kernel
theorem dX3_sumOfQualities_17 : decode cX3_sumOfQualities 17 = .ok (.arraylength, 1) := by decide +kernel
theorem dX3_sumOfQualities_18 : decode cX3_sumOfQualities 18 = .ok (.if_icmp .ge 18, 3) := by decide +kernel
theorem dX3_sumOfQualities_21 : decode cX3_sumOfQualities 21 = .ok (.iload_n 1, 1) := by decide +kernel
theorem dX3_sumOfQualities_22 : decode cX3_sumOfQualities 22 = .ok (.aload_n 0, 1) := by decide +kernel
theorem dX3_sumOfQualities_23 : decode cX3_sumOfQualities 23 = .ok (.getfield 9, 3) := by decide +kernel
theorem dX3_sumOfQualities_26 : decode cX3_sumOfQualities 26 = .ok (.iload_n 2, 1) := by decide +kernel
theorem dX3_sumOfQualities_27 : decode cX3_sumOfQualities 27 = .ok (.iaload, 1) := by decide +kernel
theorem dX3_sumOfQualities_28 : decode cX3_sumOfQualities 28 = .ok (.iadd, 1) := by decide +kernel
theorem dX3_sumOfQualities_29 : decode cX3_sumOfQualities 29 = .ok (.istore_n 1, 1) := by decide +kernel
theorem dX3_sumOfQualities_30 : decode cX3_sumOfQualities 30 = .ok (.iinc 2 1, 3) := by decide +kernel
theorem dX3_sumOfQualities_33 : decode cX3_sumOfQualities 33 = .ok (.goto (-29), 3) := by decide +kernel
theorem dX3_sumOfQualities_36 : decode cX3_sumOfQualities 36 = .ok (.iload_n 1, 1) := by decide +kernel
theorem dX3_sumOfQualities_37 : decode cX3_sumOfQualities 37 = .ok (.ireturn, 1) := by decide +kernel
theorem dX3_addsUp_0 : decode cX3_addsUp 0 = .ok (.aload_n 0, 1) := by decide +kernel
theorem dX3_addsUp_1 : decode cX3_addsUp 1 = .ok (.invokevirtual 142, 3) := by decide +kernel
theorem dX3_addsUp_4 : decode cX3_addsUp 4 = .ok (.istore_n 1, 1) := by decide +kernel
theorem dX3_addsUp_5 : decode cX3_addsUp 5 = .ok (.iconst 0, 1) := by decide +kernel
theorem dX3_addsUp_6 : decode cX3_addsUp 6 = .ok (.istore_n 2, 1) := by decide +kernel
theorem dX3_addsUp_7 : decode cX3_addsUp 7 = .ok (.iload_n 2, 1) := by decide +kernel
theorem dX3_addsUp_8 : decode cX3_addsUp 8 = .ok (.aload_n 0, 1) := by decide +kernel
theorem dX3_addsUp_9 : decode cX3_addsUp 9 = .ok (.getfield 50, 3) := by decide +kernel
theorem dX3_addsUp_12 : decode cX3_addsUp 12 = .ok (.if_icmp .ge 35, 3) := by decide +kernel
theorem dX3_addsUp_15 : decode cX3_addsUp 15 = .ok (.iload_n 2, 1) := by decide +kernel
theorem dX3_addsUp_16 : decode cX3_addsUp 16 = .ok (.aload_n 0, 1) := by decide +kernel
theorem dX3_addsUp_17 : decode cX3_addsUp 17 = .ok (.getfield 9, 3) := by decide +kernel
theorem dX3_addsUp_20 : decode cX3_addsUp 20 = .ok (.arraylength, 1) := by decide +kernel
theorem dX3_addsUp_21 : decode cX3_addsUp 21 = .ok (.if_icmp .ge 26, 3) := by decide +kernel
theorem dX3_addsUp_24 : decode cX3_addsUp 24 = .ok (.iload_n 1, 1) := by decide +kernel
theorem dX3_addsUp_25 : decode cX3_addsUp 25 = .ok (.aload_n 0, 1) := by decide +kernel
theorem dX3_addsUp_26 : decode cX3_addsUp 26 = .ok (.getfield 25, 3) := by decide +kernel
theorem dX3_addsUp_29 : decode cX3_addsUp 29 = .ok (.iload_n 2, 1) := by decide +kernel
theorem dX3_addsUp_30 : decode cX3_addsUp 30 = .ok (.aload_n 0, 1) := by decide +kernel
theorem dX3_addsUp_31 : decode cX3_addsUp 31 = .ok (.getfield 9, 3) := by decide +kernel
theorem dX3_addsUp_34 : decode cX3_addsUp 34 = .ok (.iload_n 2, 1) := by decide +kernel
theorem dX3_addsUp_35 : decode cX3_addsUp 35 = .ok (.iaload, 1) := by decide +kernel
theorem dX3_addsUp_36 : decode cX3_addsUp 36 = .ok (.invokevirtual 109, 3) := by decide +kernel
theorem dX3_addsUp_39 : decode cX3_addsUp 39 = .ok (.iadd, 1) := by decide +kernel
theorem dX3_addsUp_40 : decode cX3_addsUp 40 = .ok (.istore_n 1, 1) := by decide +kernel
theorem dX3_addsUp_41 : decode cX3_addsUp 41 = .ok (.iinc 2 1, 3) := by decide +kernel
theorem dX3_addsUp_44 : decode cX3_addsUp 44 = .ok (.goto (-37), 3) := by decide +kernel
theorem dX3_addsUp_47 : decode cX3_addsUp 47 = .ok (.iload_n 1, 1) := by decide +kernel
theorem dX3_addsUp_48 : decode cX3_addsUp 48 = .ok (.aload_n 0, 1) := by decide +kernel
theorem dX3_addsUp_49 : decode cX3_addsUp 49 = .ok (.getfield 71, 3) := by decide +kernel
theorem dX3_addsUp_52 : decode cX3_addsUp 52 = .ok (.if_icmp .ne 31, 3) := by decide +kernel
theorem dX3_addsUp_55 : decode cX3_addsUp 55 = .ok (.aload_n 0, 1) := by decide +kernel
theorem dX3_addsUp_56 : decode cX3_addsUp 56 = .ok (.getfield 62, 3) := by decide +kernel
theorem dX3_addsUp_59 : decode cX3_addsUp 59 = .ok (.aload_n 0, 1) := by decide +kernel
theorem dX3_addsUp_60 : decode cX3_addsUp 60 = .ok (.getfield 47, 3) := by decide +kernel
theorem dX3_addsUp_63 : decode cX3_addsUp 63 = .ok (.iadd, 1) := by decide +kernel
theorem dX3_addsUp_64 : decode cX3_addsUp 64 = .ok (.aload_n 0, 1) := by decide +kernel
theorem dX3_addsUp_65 : decode cX3_addsUp 65 = .ok (.getfield 50, 3) := by decide +kernel
theorem dX3_addsUp_68 : decode cX3_addsUp 68 = .ok (.aload_n 0, 1) := by decide +kernel
theorem dX3_addsUp_69 : decode cX3_addsUp 69 = .ok (.getfield 21, 3) := by decide +kernel
theorem dX3_addsUp_72 : decode cX3_addsUp 72 = .ok (.getfield 94, 3) := by decide +kernel
theorem dX3_addsUp_75 : decode cX3_addsUp 75 = .ok (.imul, 1) := by decide +kernel
theorem dX3_addsUp_76 : decode cX3_addsUp 76 = .ok (.if_icmp .ne 7, 3) := by decide +kernel
theorem dX3_addsUp_79 : decode cX3_addsUp 79 = .ok (.iconst 1, 1) := by decide +kernel
theorem dX3_addsUp_80 : decode cX3_addsUp 80 = .ok (.goto 4, 3) := by decide +kernel
theorem dX3_addsUp_83 : decode cX3_addsUp 83 = .ok (.iconst 0, 1) := by decide +kernel
theorem dX3_addsUp_84 : decode cX3_addsUp 84 = .ok (.ireturn, 1) := by decide +kernel
theorem dX4_init_0 : decode cX4_init 0 = .ok (.aload_n 0, 1) := by decide +kernel
theorem dX4_init_1 : decode cX4_init 1 = .ok (.invokespecial 3, 3) := by decide +kernel
theorem dX4_init_4 : decode cX4_init 4 = .ok (.aload_n 0, 1) := by decide +kernel
theorem dX4_init_5 : decode cX4_init 5 = .ok (.new 9, 3) := by decide +kernel
theorem dX4_init_8 : decode cX4_init 8 = .ok (.dup, 1) := by decide +kernel
theorem dX4_init_9 : decode cX4_init 9 = .ok (.invokespecial 11, 3) := by decide +kernel
theorem dX4_init_12 : decode cX4_init 12 = .ok (.putfield 12, 3) := by decide +kernel
theorem dX4_init_15 : decode cX4_init 15 = .ok (.aload_n 0, 1) := by decide +kernel
theorem dX4_init_16 : decode cX4_init 16 = .ok (.sipush 600, 3) := by decide +kernel
theorem dX4_init_19 : decode cX4_init 19 = .ok (.newarray .byte, 2) := by decide +kernel
theorem dX4_init_21 : decode cX4_init 21 = .ok (.putfield 18, 3) := by decide +kernel
theorem dX4_init_24 : decode cX4_init 24 = .ok (.aload_n 0, 1) := by decide +kernel
theorem dX4_init_25 : decode cX4_init 25 = .ok (.iconst (-1), 1) := by decide +kernel
theorem dX4_init_26 : decode cX4_init 26 = .ok (.putfield 22, 3) := by decide +kernel
theorem dX4_init_29 : decode cX4_init 29 = .ok (.return_, 1) := by decide +kernel
theorem dX4_hasRoom_0 : decode cX4_hasRoom 0 = .ok (.aload_n 0, 1) := by decide +kernel
theorem dX4_hasRoom_1 : decode cX4_hasRoom 1 = .ok (.getfield 26, 3) := by decide +kernel
theorem dX4_hasRoom_4 : decode cX4_hasRoom 4 = .ok (.bipush 20, 2) := by decide +kernel
theorem dX4_hasRoom_6 : decode cX4_hasRoom 6 = .ok (.iadd, 1) := by decide +kernel
theorem dX4_hasRoom_7 : decode cX4_hasRoom 7 = .ok (.aload_n 0, 1) := by decide +kernel
theorem dX4_hasRoom_8 : decode cX4_hasRoom 8 = .ok (.getfield 18, 3) := by decide +kernel
theorem dX4_hasRoom_11 : decode cX4_hasRoom 11 = .ok (.arraylength, 1) := by decide +kernel
theorem dX4_hasRoom_12 : decode cX4_hasRoom 12 = .ok (.if_icmp .gt 7, 3) := by decide +kernel
theorem dX4_hasRoom_15 : decode cX4_hasRoom 15 = .ok (.iconst 1, 1) := by decide +kernel
theorem dX4_hasRoom_16 : decode cX4_hasRoom 16 = .ok (.goto 4, 3) := by decide +kernel
theorem dX4_hasRoom_19 : decode cX4_hasRoom 19 = .ok (.iconst 0, 1) := by decide +kernel
theorem dX4_hasRoom_20 : decode cX4_hasRoom 20 = .ok (.ireturn, 1) := by decide +kernel
theorem dX4_addBytes_0 : decode cX4_addBytes 0 = .ok (.bipush 24, 2) := by decide +kernel
theorem dX4_addBytes_2 : decode cX4_addBytes 2 = .ok (.istore_n 2, 1) := by decide +kernel
theorem dX4_addBytes_3 : decode cX4_addBytes 3 = .ok (.iload_n 2, 1) := by decide +kernel
theorem dX4_addBytes_4 : decode cX4_addBytes 4 = .ok (.ifCond .lt 44, 3) := by decide +kernel
theorem dX4_addBytes_7 : decode cX4_addBytes 7 = .ok (.aload_n 0, 1) := by decide +kernel
theorem dX4_addBytes_8 : decode cX4_addBytes 8 = .ok (.getfield 26, 3) := by decide +kernel
theorem dX4_addBytes_11 : decode cX4_addBytes 11 = .ok (.aload_n 0, 1) := by decide +kernel
theorem dX4_addBytes_12 : decode cX4_addBytes 12 = .ok (.getfield 18, 3) := by decide +kernel
theorem dX4_addBytes_15 : decode cX4_addBytes 15 = .ok (.arraylength, 1) := by decide +kernel
theorem dX4_addBytes_16 : decode cX4_addBytes 16 = .ok (.if_icmp .ge 26, 3) := by decide +kernel
theorem dX4_addBytes_19 : decode cX4_addBytes 19 = .ok (.aload_n 0, 1) := by decide +kernel
theorem dX4_addBytes_20 : decode cX4_addBytes 20 = .ok (.getfield 18, 3) := by decide +kernel
theorem dX4_addBytes_23 : decode cX4_addBytes 23 = .ok (.aload_n 0, 1) := by decide +kernel
theorem dX4_addBytes_24 : decode cX4_addBytes 24 = .ok (.getfield 26, 3) := by decide +kernel
theorem dX4_addBytes_27 : decode cX4_addBytes 27 = .ok (.iload_n 1, 1) := by decide +kernel
theorem dX4_addBytes_28 : decode cX4_addBytes 28 = .ok (.iload_n 2, 1) := by decide +kernel
theorem dX4_addBytes_29 : decode cX4_addBytes 29 = .ok (.ishr, 1) := by decide +kernel
theorem dX4_addBytes_30 : decode cX4_addBytes 30 = .ok (.i2b, 1) := by decide +kernel
theorem dX4_addBytes_31 : decode cX4_addBytes 31 = .ok (.bastore, 1) := by decide +kernel
theorem dX4_addBytes_32 : decode cX4_addBytes 32 = .ok (.aload_n 0, 1) := by decide +kernel
theorem dX4_addBytes_33 : decode cX4_addBytes 33 = .ok (.dup, 1) := by decide +kernel
theorem dX4_addBytes_34 : decode cX4_addBytes 34 = .ok (.getfield 26, 3) := by decide +kernel
theorem dX4_addBytes_37 : decode cX4_addBytes 37 = .ok (.iconst 1, 1) := by decide +kernel
theorem dX4_addBytes_38 : decode cX4_addBytes 38 = .ok (.iadd, 1) := by decide +kernel
theorem dX4_addBytes_39 : decode cX4_addBytes 39 = .ok (.putfield 26, 3) := by decide +kernel
theorem dX4_addBytes_42 : decode cX4_addBytes 42 = .ok (.iinc 2 (-8), 3) := by decide +kernel
theorem dX4_addBytes_45 : decode cX4_addBytes 45 = .ok (.goto (-42), 3) := by decide +kernel
theorem dX4_addBytes_48 : decode cX4_addBytes 48 = .ok (.return_, 1) := by decide +kernel
theorem dX4_readText_0 : decode cX4_readText 0 = .ok (.aload_n 0, 1) := by decide +kernel
theorem dX4_readText_1 : decode cX4_readText 1 = .ok (.getfield 12, 3) := by decide +kernel
theorem dX4_readText_4 : decode cX4_readText 4 = .ok (.invokevirtual 29, 3) := by decide +kernel
theorem dX4_readText_7 : decode cX4_readText 7 = .ok (.aload_n 0, 1) := by decide +kernel
theorem dX4_readText_8 : decode cX4_readText 8 = .ok (.iconst 0, 1) := by decide +kernel
theorem dX4_readText_9 : decode cX4_readText 9 = .ok (.putfield 32, 3) := by decide +kernel
theorem dX4_readText_12 : decode cX4_readText 12 = .ok (.aload_n 0, 1) := by decide +kernel
theorem dX4_readText_13 : decode cX4_readText 13 = .ok (.iconst (-1), 1) := by decide +kernel
theorem dX4_readText_14 : decode cX4_readText 14 = .ok (.putfield 22, 3) := by decide +kernel
theorem dX4_readText_17 : decode cX4_readText 17 = .ok (.aload_n 0, 1) := by decide +kernel
theorem dX4_readText_18 : decode cX4_readText 18 = .ok (.iload_n 1, 1) := by decide +kernel
theorem dX4_readText_19 : decode cX4_readText 19 = .ok (.putfield 35, 3) := by decide +kernel
theorem dX4_readText_22 : decode cX4_readText 22 = .ok (.aload_n 0, 1) := by decide +kernel
theorem dX4_readText_23 : decode cX4_readText 23 = .ok (.iconst 0, 1) := by decide +kernel
theorem dX4_readText_24 : decode cX4_readText 24 = .ok (.putfield 38, 3) := by decide +kernel
theorem dX4_readText_27 : decode cX4_readText 27 = .ok (.aload_n 0, 1) := by decide +kernel
theorem dX4_readText_28 : decode cX4_readText 28 = .ok (.invokevirtual 41, 3) := by decide +kernel
theorem dX4_readText_31 : decode cX4_readText 31 = .ok (.aload_n 0, 1) := by decide +kernel
theorem dX4_readText_32 : decode cX4_readText 32 = .ok (.invokevirtual 44, 3) := by decide +kernel
theorem dX4_readText_35 : decode cX4_readText 35 = .ok (.iconst 0, 1) := by decide +kernel
theorem dX4_readText_36 : decode cX4_readText 36 = .ok (.istore_n 2, 1) := by decide +kernel
theorem dX4_readText_37 : decode cX4_readText 37 = .ok (.iload_n 2, 1) := by decide +kernel
theorem dX4_readText_38 : decode cX4_readText 38 = .ok (.aload_n 0, 1) := by decide +kernel
theorem dX4_readText_39 : decode cX4_readText 39 = .ok (.getfield 35, 3) := by decide +kernel
theorem dX4_readText_42 : decode cX4_readText 42 = .ok (.if_icmp .ge 27, 3) := by decide +kernel
theorem dX4_readText_45 : decode cX4_readText 45 = .ok (.aload_n 0, 1) := by decide +kernel
theorem dX4_readText_46 : decode cX4_readText 46 = .ok (.getfield 32, 3) := by decide +kernel
theorem dX4_readText_49 : decode cX4_readText 49 = .ok (.ifCond .ne 20, 3) := by decide +kernel
theorem dX4_readText_52 : decode cX4_readText 52 = .ok (.aload_n 0, 1) := by decide +kernel
theorem dX4_readText_53 : decode cX4_readText 53 = .ok (.getfield 47, 3) := by decide +kernel
theorem dX4_readText_56 : decode cX4_readText 56 = .ok (.ifCond .eq 13, 3) := by decide +kernel
theorem dX4_readText_59 : decode cX4_readText 59 = .ok (.aload_n 0, 1) := by decide +kernel
theorem dX4_readText_60 : decode cX4_readText 60 = .ok (.invokevirtual 50, 3) := by decide +kernel
theorem dX4_readText_63 : decode cX4_readText 63 = .ok (.iinc 2 1, 3) := by decide +kernel
theorem dX4_readText_66 : decode cX4_readText 66 = .ok (.goto (-29), 3) := by decide +kernel
theorem dX4_readText_69 : decode cX4_readText 69 = .ok (.aload_n 0, 1) := by decide +kernel
theorem dX4_readText_70 : decode cX4_readText 70 = .ok (.getfield 32, 3) := by decide +kernel
theorem dX4_readText_73 : decode cX4_readText 73 = .ok (.ifCond .ne 10, 3) := by decide +kernel
theorem dX4_readText_76 : decode cX4_readText 76 = .ok (.aload_n 0, 1) := by decide +kernel
theorem dX4_readText_77 : decode cX4_readText 77 = .ok (.getfield 12, 3) := by decide +kernel
theorem dX4_readText_80 : decode cX4_readText 80 = .ok (.invokevirtual 53, 3) := by decide +kernel
theorem dX4_readText_83 : decode cX4_readText 83 = .ok (.aload_n 0, 1) := by decide +kernel
theorem dX4_readText_84 : decode cX4_readText 84 = .ok (.iconst 0, 1) := by decide +kernel
theorem dX4_readText_85 : decode cX4_readText 85 = .ok (.putfield 26, 3) := by decide +kernel
theorem dX4_readText_88 : decode cX4_readText 88 = .ok (.aload_n 0, 1) := by decide +kernel
theorem dX4_readText_89 : decode cX4_readText 89 = .ok (.getfield 32, 3) := by decide +kernel
theorem dX4_readText_92 : decode cX4_readText 92 = .ok (.ireturn, 1) := by decide +kernel
theorem dX4_readHead_0 : decode cX4_readHead 0 = .ok (.aload_n 0, 1) := by decide +kernel
theorem dX4_readHead_1 : decode cX4_readHead 1 = .ok (.ldc 67, 2) := by decide +kernel
theorem dX4_readHead_3 : decode cX4_readHead 3 = .ok (.invokevirtual 69, 3) := by decide +kernel
theorem dX4_readHead_6 : decode cX4_readHead 6 = .ok (.aload_n 0, 1) := by decide +kernel
theorem dX4_readHead_7 : decode cX4_readHead 7 = .ok (.getfield 12, 3) := by decide +kernel
theorem dX4_readHead_10 : decode cX4_readHead 10 = .ok (.aload_n 0, 1) := by decide +kernel
theorem dX4_readHead_11 : decode cX4_readHead 11 = .ok (.iconst 1, 1) := by decide +kernel
theorem dX4_readHead_12 : decode cX4_readHead 12 = .ok (.bipush 20, 2) := by decide +kernel
theorem dX4_readHead_14 : decode cX4_readHead 14 = .ok (.invokevirtual 73, 3) := by decide +kernel
theorem dX4_readHead_17 : decode cX4_readHead 17 = .ok (.putfield 77, 3) := by decide +kernel
theorem dX4_readHead_20 : decode cX4_readHead 20 = .ok (.aload_n 0, 1) := by decide +kernel
theorem dX4_readHead_21 : decode cX4_readHead 21 = .ok (.getfield 12, 3) := by decide +kernel
theorem dX4_readHead_24 : decode cX4_readHead 24 = .ok (.aload_n 0, 1) := by decide +kernel
theorem dX4_readHead_25 : decode cX4_readHead 25 = .ok (.iconst 1, 1) := by decide +kernel
theorem dX4_readHead_26 : decode cX4_readHead 26 = .ok (.bipush 60, 2) := by decide +kernel
theorem dX4_readHead_28 : decode cX4_readHead 28 = .ok (.invokevirtual 73, 3) := by decide +kernel
theorem dX4_readHead_31 : decode cX4_readHead 31 = .ok (.putfield 78, 3) := by decide +kernel
theorem dX4_readHead_34 : decode cX4_readHead 34 = .ok (.aload_n 0, 1) := by decide +kernel
theorem dX4_readHead_35 : decode cX4_readHead 35 = .ok (.getfield 12, 3) := by decide +kernel
theorem dX4_readHead_38 : decode cX4_readHead 38 = .ok (.aload_n 0, 1) := by decide +kernel
theorem dX4_readHead_39 : decode cX4_readHead 39 = .ok (.iconst 1, 1) := by decide +kernel
theorem dX4_readHead_40 : decode cX4_readHead 40 = .ok (.sipush 200, 3) := by decide +kernel
theorem dX4_readHead_43 : decode cX4_readHead 43 = .ok (.invokevirtual 73, 3) := by decide +kernel
theorem dX4_readHead_46 : decode cX4_readHead 46 = .ok (.putfield 81, 3) := by decide +kernel
theorem dX4_readHead_49 : decode cX4_readHead 49 = .ok (.aload_n 0, 1) := by decide +kernel
theorem dX4_readHead_50 : decode cX4_readHead 50 = .ok (.getfield 12, 3) := by decide +kernel
theorem dX4_readHead_53 : decode cX4_readHead 53 = .ok (.aload_n 0, 1) := by decide +kernel
theorem dX4_readHead_54 : decode cX4_readHead 54 = .ok (.bipush 10, 2) := by decide +kernel
theorem dX4_readHead_56 : decode cX4_readHead 56 = .ok (.bipush 100, 2) := by decide +kernel
theorem dX4_readHead_58 : decode cX4_readHead 58 = .ok (.invokevirtual 73, 3) := by decide +kernel
theorem dX4_readHead_61 : decode cX4_readHead 61 = .ok (.putfield 84, 3) := by decide +kernel
theorem dX4_readHead_64 : decode cX4_readHead 64 = .ok (.aload_n 0, 1) := by decide +kernel
theorem dX4_readHead_65 : decode cX4_readHead 65 = .ok (.invokevirtual 87, 3) := by decide +kernel
theorem dX4_readHead_68 : decode cX4_readHead 68 = .ok (.return_, 1) := by decide +kernel
theorem dX4_readStatement_0 : decode cX4_readStatement 0 = .ok (.aload_n 0, 1) := by decide +kernel
theorem dX4_readStatement_1 : decode cX4_readStatement 1 = .ok (.ldc 90, 2) := by decide +kernel
theorem dX4_readStatement_3 : decode cX4_readStatement 3 = .ok (.invokevirtual 92, 3) := by decide +kernel
theorem dX4_readStatement_6 : decode cX4_readStatement 6 = .ok (.ifCond .eq 10, 3) := by decide +kernel
theorem dX4_readStatement_9 : decode cX4_readStatement 9 = .ok (.aload_n 0, 1) := by decide +kernel
theorem dX4_readStatement_10 : decode cX4_readStatement 10 = .ok (.invokevirtual 96, 3) := by decide +kernel
theorem dX4_readStatement_13 : decode cX4_readStatement 13 = .ok (.goto 56, 3) := by decide +kernel
theorem dX4_readStatement_16 : decode cX4_readStatement 16 = .ok (.aload_n 0, 1) := by decide +kernel
theorem dX4_readStatement_17 : decode cX4_readStatement 17 = .ok (.ldc 99, 2) := by decide +kernel
theorem dX4_readStatement_19 : decode cX4_readStatement 19 = .ok (.invokevirtual 92, 3) := by decide +kernel
theorem dX4_readStatement_22 : decode cX4_readStatement 22 = .ok (.ifCond .eq 10, 3) := by decide +kernel
theorem dX4_readStatement_25 : decode cX4_readStatement 25 = .ok (.aload_n 0, 1) := by decide +kernel
theorem dX4_readStatement_26 : decode cX4_readStatement 26 = .ok (.invokevirtual 101, 3) := by decide +kernel
theorem dX4_readStatement_29 : decode cX4_readStatement 29 = .ok (.goto 40, 3) := by decide +kernel
theorem dX4_readStatement_32 : decode cX4_readStatement 32 = .ok (.aload_n 0, 1) := by decide +kernel
theorem dX4_readStatement_33 : decode cX4_readStatement 33 = .ok (.ldc 104, 2) := by decide +kernel
theorem dX4_readStatement_35 : decode cX4_readStatement 35 = .ok (.invokevirtual 92, 3) := by decide +kernel
theorem dX4_readStatement_38 : decode cX4_readStatement 38 = .ok (.ifCond .eq 10, 3) := by decide +kernel
theorem dX4_readStatement_41 : decode cX4_readStatement 41 = .ok (.aload_n 0, 1) := by decide +kernel
theorem dX4_readStatement_42 : decode cX4_readStatement 42 = .ok (.invokevirtual 106, 3) := by decide +kernel
theorem dX4_readStatement_45 : decode cX4_readStatement 45 = .ok (.goto 24, 3) := by decide +kernel
theorem dX4_readStatement_48 : decode cX4_readStatement 48 = .ok (.aload_n 0, 1) := by decide +kernel
theorem dX4_readStatement_49 : decode cX4_readStatement 49 = .ok (.ldc 109, 2) := by decide +kernel
theorem dX4_readStatement_51 : decode cX4_readStatement 51 = .ok (.invokevirtual 92, 3) := by decide +kernel
theorem dX4_readStatement_54 : decode cX4_readStatement 54 = .ok (.ifCond .eq 10, 3) := by decide +kernel
theorem dX4_readStatement_57 : decode cX4_readStatement 57 = .ok (.aload_n 0, 1) := by decide +kernel
theorem dX4_readStatement_58 : decode cX4_readStatement 58 = .ok (.invokevirtual 111, 3) := by decide +kernel
theorem dX4_readStatement_61 : decode cX4_readStatement 61 = .ok (.goto 8, 3) := by decide +kernel
theorem dX4_readStatement_64 : decode cX4_readStatement 64 = .ok (.aload_n 0, 1) := by decide +kernel
theorem dX4_readStatement_65 : decode cX4_readStatement 65 = .ok (.iconst 1, 1) := by decide +kernel
theorem dX4_readStatement_66 : decode cX4_readStatement 66 = .ok (.invokevirtual 114, 3) := by decide +kernel
theorem dX4_readStatement_69 : decode cX4_readStatement 69 = .ok (.aload_n 0, 1) := by decide +kernel
theorem dX4_readStatement_70 : decode cX4_readStatement 70 = .ok (.invokevirtual 87, 3) := by decide +kernel
theorem dX4_readStatement_73 : decode cX4_readStatement 73 = .ok (.return_, 1) := by decide +kernel
theorem dX4_readLink_0 : decode cX4_readLink 0 = .ok (.aload_n 0, 1) := by decide +kernel
theorem dX4_readLink_1 : decode cX4_readLink 1 = .ok (.getfield 12, 3) := by decide +kernel
theorem dX4_readLink_4 : decode cX4_readLink 4 = .ok (.getfield 118, 3) := by decide +kernel
theorem dX4_readLink_7 : decode cX4_readLink 7 = .ok (.bipush 8, 2) := by decide +kernel
theorem dX4_readLink_9 : decode cX4_readLink 9 = .ok (.if_icmp .lt 8, 3) := by decide +kernel
theorem dX4_readLink_12 : decode cX4_readLink 12 = .ok (.aload_n 0, 1) := by decide +kernel
theorem dX4_readLink_13 : decode cX4_readLink 13 = .ok (.iconst 5, 1) := by decide +kernel
theorem dX4_readLink_14 : decode cX4_readLink 14 = .ok (.invokevirtual 114, 3) := by decide +kernel
theorem dX4_readLink_17 : decode cX4_readLink 17 = .ok (.aload_n 0, 1) := by decide +kernel
theorem dX4_readLink_18 : decode cX4_readLink 18 = .ok (.ldc 90, 2) := by decide +kernel
theorem dX4_readLink_20 : decode cX4_readLink 20 = .ok (.invokevirtual 69, 3) := by decide +kernel
theorem dX4_readLink_23 : decode cX4_readLink 23 = .ok (.aload_n 0, 1) := by decide +kernel
theorem dX4_readLink_24 : decode cX4_readLink 24 = .ok (.iconst 1, 1) := by decide +kernel
theorem dX4_readLink_25 : decode cX4_readLink 25 = .ok (.sipush 200, 3) := by decide +kernel
theorem dX4_readLink_28 : decode cX4_readLink 28 = .ok (.invokevirtual 73, 3) := by decide +kernel
theorem dX4_readLink_31 : decode cX4_readLink 31 = .ok (.istore_n 1, 1) := by decide +kernel
theorem dX4_readLink_32 : decode cX4_readLink 32 = .ok (.aload_n 0, 1) := by decide +kernel
theorem dX4_readLink_33 : decode cX4_readLink 33 = .ok (.iconst 0, 1) := by decide +kernel
theorem dX4_readLink_34 : decode cX4_readLink 34 = .ok (.sipush 9999, 3) := by decide +kernel
theorem dX4_readLink_37 : decode cX4_readLink 37 = .ok (.invokevirtual 73, 3) := by decide +kernel
theorem dX4_readLink_40 : decode cX4_readLink 40 = .ok (.istore_n 2, 1) := by decide +kernel
theorem dX4_readLink_41 : decode cX4_readLink 41 = .ok (.aload_n 0, 1) := by decide +kernel
theorem dX4_readLink_42 : decode cX4_readLink 42 = .ok (.getfield 32, 3) := by decide +kernel
theorem dX4_readLink_45 : decode cX4_readLink 45 = .ok (.ifCond .ne 12, 3) := by decide +kernel
theorem dX4_readLink_48 : decode cX4_readLink 48 = .ok (.aload_n 0, 1) := by decide +kernel
theorem dX4_readLink_49 : decode cX4_readLink 49 = .ok (.getfield 12, 3) := by decide +kernel
theorem dX4_readLink_52 : decode cX4_readLink 52 = .ok (.iload_n 1, 1) := by decide +kernel
theorem dX4_readLink_53 : decode cX4_readLink 53 = .ok (.iload_n 2, 1) := by decide +kernel
theorem dX4_readLink_54 : decode cX4_readLink 54 = .ok (.invokevirtual 121, 3) := by decide +kernel
theorem dX4_readLink_57 : decode cX4_readLink 57 = .ok (.return_, 1) := by decide +kernel
theorem dX4_readVary_0 : decode cX4_readVary 0 = .ok (.aload_n 0, 1) := by decide +kernel
theorem dX4_readVary_1 : decode cX4_readVary 1 = .ok (.getfield 12, 3) := by decide +kernel
theorem dX4_readVary_4 : decode cX4_readVary 4 = .ok (.getfield 125, 3) := by decide +kernel
theorem dX4_readVary_7 : decode cX4_readVary 7 = .ok (.ifCond .le 8, 3) := by decide +kernel
theorem dX4_readVary_10 : decode cX4_readVary 10 = .ok (.aload_n 0, 1) := by decide +kernel
theorem dX4_readVary_11 : decode cX4_readVary 11 = .ok (.iconst 2, 1) := by decide +kernel
theorem dX4_readVary_12 : decode cX4_readVary 12 = .ok (.invokevirtual 114, 3) := by decide +kernel
theorem dX4_readVary_15 : decode cX4_readVary 15 = .ok (.aload_n 0, 1) := by decide +kernel
theorem dX4_readVary_16 : decode cX4_readVary 16 = .ok (.ldc 99, 2) := by decide +kernel
theorem dX4_readVary_18 : decode cX4_readVary 18 = .ok (.invokevirtual 69, 3) := by decide +kernel
theorem dX4_readVary_21 : decode cX4_readVary 21 = .ok (.iconst 0, 1) := by decide +kernel
theorem dX4_readVary_22 : decode cX4_readVary 22 = .ok (.istore_n 1, 1) := by decide +kernel
theorem dX4_readVary_23 : decode cX4_readVary 23 = .ok (.iload_n 1, 1) := by decide +kernel
theorem dX4_readVary_24 : decode cX4_readVary 24 = .ok (.iconst 4, 1) := by decide +kernel
theorem dX4_readVary_25 : decode cX4_readVary 25 = .ok (.if_icmp .gt 69, 3) := by decide +kernel
theorem dX4_readVary_28 : decode cX4_readVary 28 = .ok (.aload_n 0, 1) := by decide +kernel
theorem dX4_readVary_29 : decode cX4_readVary 29 = .ok (.getfield 32, 3) := by decide +kernel
theorem dX4_readVary_32 : decode cX4_readVary 32 = .ok (.ifCond .ne 62, 3) := by decide +kernel
theorem dX4_readVary_35 : decode cX4_readVary 35 = .ok (.iload_n 1, 1) := by decide +kernel
theorem dX4_readVary_36 : decode cX4_readVary 36 = .ok (.ifCond .eq 11, 3) := by decide +kernel
theorem dX4_readVary_39 : decode cX4_readVary 39 = .ok (.aload_n 0, 1) := by decide +kernel
theorem dX4_readVary_40 : decode cX4_readVary 40 = .ok (.getfield 47, 3) := by decide +kernel
theorem dX4_readVary_43 : decode cX4_readVary 43 = .ok (.iconst 2, 1) := by decide +kernel
theorem dX4_readVary_44 : decode cX4_readVary 44 = .ok (.if_icmp .ne 50, 3) := by decide +kernel
theorem dX4_readVary_47 : decode cX4_readVary 47 = .ok (.aload_n 0, 1) := by decide +kernel
theorem dX4_readVary_48 : decode cX4_readVary 48 = .ok (.bipush 50, 2) := by decide +kernel
theorem dX4_readVary_50 : decode cX4_readVary 50 = .ok (.sipush 200, 3) := by decide +kernel
theorem dX4_readVary_53 : decode cX4_readVary 53 = .ok (.invokevirtual 128, 3) := by decide +kernel
theorem dX4_readVary_56 : decode cX4_readVary 56 = .ok (.iload_n 1, 1) := by decide +kernel
theorem dX4_readVary_57 : decode cX4_readVary 57 = .ok (.iconst 4, 1) := by decide +kernel
theorem dX4_readVary_58 : decode cX4_readVary 58 = .ok (.if_icmp .ne 8, 3) := by decide +kernel
theorem dX4_readVary_61 : decode cX4_readVary 61 = .ok (.aload_n 0, 1) := by decide +kernel
theorem dX4_readVary_62 : decode cX4_readVary 62 = .ok (.iconst 5, 1) := by decide +kernel
theorem dX4_readVary_63 : decode cX4_readVary 63 = .ok (.invokevirtual 114, 3) := by decide +kernel
theorem dX4_readVary_66 : decode cX4_readVary 66 = .ok (.aload_n 0, 1) := by decide +kernel
theorem dX4_readVary_67 : decode cX4_readVary 67 = .ok (.getfield 32, 3) := by decide +kernel
theorem dX4_readVary_70 : decode cX4_readVary 70 = .ok (.ifCond .ne 18, 3) := by decide +kernel
theorem dX4_readVary_73 : decode cX4_readVary 73 = .ok (.aload_n 0, 1) := by decide +kernel
theorem dX4_readVary_74 : decode cX4_readVary 74 = .ok (.getfield 12, 3) := by decide +kernel
theorem dX4_readVary_77 : decode cX4_readVary 77 = .ok (.aload_n 0, 1) := by decide +kernel
theorem dX4_readVary_78 : decode cX4_readVary 78 = .ok (.getfield 131, 3) := by decide +kernel
theorem dX4_readVary_81 : decode cX4_readVary 81 = .ok (.invokevirtual 134, 3) := by decide +kernel
theorem dX4_readVary_84 : decode cX4_readVary 84 = .ok (.aload_n 0, 1) := by decide +kernel
theorem dX4_readVary_85 : decode cX4_readVary 85 = .ok (.invokevirtual 41, 3) := by decide +kernel
theorem dX4_readVary_88 : decode cX4_readVary 88 = .ok (.iinc 1 1, 3) := by decide +kernel
theorem dX4_readVary_91 : decode cX4_readVary 91 = .ok (.goto (-68), 3) := by decide +kernel
theorem dX4_readVary_94 : decode cX4_readVary 94 = .ok (.return_, 1) := by decide +kernel
theorem dX4_readJoin_0 : decode cX4_readJoin 0 = .ok (.aload_n 0, 1) := by decide +kernel
theorem dX4_readJoin_1 : decode cX4_readJoin 1 = .ok (.ldc 104, 2) := by decide +kernel
theorem dX4_readJoin_3 : decode cX4_readJoin 3 = .ok (.invokevirtual 69, 3) := by decide +kernel
theorem dX4_readJoin_6 : decode cX4_readJoin 6 = .ok (.aload_n 0, 1) := by decide +kernel
theorem dX4_readJoin_7 : decode cX4_readJoin 7 = .ok (.getfield 47, 3) := by decide +kernel
theorem dX4_readJoin_10 : decode cX4_readJoin 10 = .ok (.iconst 1, 1) := by decide +kernel
theorem dX4_readJoin_11 : decode cX4_readJoin 11 = .ok (.if_icmp .eq 8, 3) := by decide +kernel
theorem dX4_readJoin_14 : decode cX4_readJoin 14 = .ok (.aload_n 0, 1) := by decide +kernel
theorem dX4_readJoin_15 : decode cX4_readJoin 15 = .ok (.iconst 1, 1) := by decide +kernel
theorem dX4_readJoin_16 : decode cX4_readJoin 16 = .ok (.invokevirtual 114, 3) := by decide +kernel
theorem dX4_readJoin_19 : decode cX4_readJoin 19 = .ok (.aload_n 0, 1) := by decide +kernel
theorem dX4_readJoin_20 : decode cX4_readJoin 20 = .ok (.getfield 12, 3) := by decide +kernel
theorem dX4_readJoin_23 : decode cX4_readJoin 23 = .ok (.aload_n 0, 1) := by decide +kernel
theorem dX4_readJoin_24 : decode cX4_readJoin 24 = .ok (.getfield 63, 3) := by decide +kernel
theorem dX4_readJoin_27 : decode cX4_readJoin 27 = .ok (.invokevirtual 137, 3) := by decide +kernel
theorem dX4_readJoin_30 : decode cX4_readJoin 30 = .ok (.istore_n 1, 1) := by decide +kernel
theorem dX4_readJoin_31 : decode cX4_readJoin 31 = .ok (.iload_n 1, 1) := by decide +kernel
theorem dX4_readJoin_32 : decode cX4_readJoin 32 = .ok (.ifCond .lt 15, 3) := by decide +kernel
theorem dX4_readJoin_35 : decode cX4_readJoin 35 = .ok (.iload_n 1, 1) := by decide +kernel
theorem dX4_readJoin_36 : decode cX4_readJoin 36 = .ok (.aload_n 0, 1) := by decide +kernel
theorem dX4_readJoin_37 : decode cX4_readJoin 37 = .ok (.getfield 12, 3) := by decide +kernel
theorem dX4_readJoin_40 : decode cX4_readJoin 40 = .ok (.getfield 141, 3) := by decide +kernel
theorem dX4_readJoin_43 : decode cX4_readJoin 43 = .ok (.arraylength, 1) := by decide +kernel
theorem dX4_readJoin_44 : decode cX4_readJoin 44 = .ok (.if_icmp .lt 9, 3) := by decide +kernel
theorem dX4_readJoin_47 : decode cX4_readJoin 47 = .ok (.aload_n 0, 1) := by decide +kernel
theorem dX4_readJoin_48 : decode cX4_readJoin 48 = .ok (.iconst 4, 1) := by decide +kernel
theorem dX4_readJoin_49 : decode cX4_readJoin 49 = .ok (.invokevirtual 114, 3) := by decide +kernel
theorem dX4_readJoin_52 : decode cX4_readJoin 52 = .ok (.return_, 1) := by decide +kernel
theorem dX4_readJoin_53 : decode cX4_readJoin 53 = .ok (.aload_n 0, 1) := by decide +kernel
theorem dX4_readJoin_54 : decode cX4_readJoin 54 = .ok (.getfield 12, 3) := by decide +kernel
theorem dX4_readJoin_57 : decode cX4_readJoin 57 = .ok (.getfield 141, 3) := by decide +kernel
theorem dX4_readJoin_60 : decode cX4_readJoin 60 = .ok (.iload_n 1, 1) := by decide +kernel
theorem dX4_readJoin_61 : decode cX4_readJoin 61 = .ok (.aaload, 1) := by decide +kernel
theorem dX4_readJoin_62 : decode cX4_readJoin 62 = .ok (.astore_n 2, 1) := by decide +kernel
theorem dX4_readJoin_63 : decode cX4_readJoin 63 = .ok (.aload_n 2, 1) := by decide +kernel
theorem dX4_readJoin_64 : decode cX4_readJoin 64 = .ok (.getfield 145, 3) := by decide +kernel
theorem dX4_readJoin_67 : decode cX4_readJoin 67 = .ok (.ifCond .eq 8, 3) := by decide +kernel
theorem dX4_readJoin_70 : decode cX4_readJoin 70 = .ok (.aload_n 0, 1) := by decide +kernel
theorem dX4_readJoin_71 : decode cX4_readJoin 71 = .ok (.iconst 2, 1) := by decide +kernel
theorem dX4_readJoin_72 : decode cX4_readJoin 72 = .ok (.invokevirtual 114, 3) := by decide +kernel
theorem dX4_readJoin_75 : decode cX4_readJoin 75 = .ok (.aload_n 0, 1) := by decide +kernel
theorem dX4_readJoin_76 : decode cX4_readJoin 76 = .ok (.invokevirtual 41, 3) := by decide +kernel
theorem dX4_readJoin_79 : decode cX4_readJoin 79 = .ok (.aload_n 2, 1) := by decide +kernel
theorem dX4_readJoin_80 : decode cX4_readJoin 80 = .ok (.aload_n 0, 1) := by decide +kernel
theorem dX4_readJoin_81 : decode cX4_readJoin 81 = .ok (.iconst 0, 1) := by decide +kernel
theorem dX4_readJoin_82 : decode cX4_readJoin 82 = .ok (.sipush 999, 3) := by decide +kernel
theorem dX4_readJoin_85 : decode cX4_readJoin 85 = .ok (.invokevirtual 73, 3) := by decide +kernel
theorem dX4_readJoin_88 : decode cX4_readJoin 88 = .ok (.putfield 151, 3) := by decide +kernel
theorem dX4_readJoin_91 : decode cX4_readJoin 91 = .ok (.aload_n 2, 1) := by decide +kernel
theorem dX4_readJoin_92 : decode cX4_readJoin 92 = .ok (.iconst 1, 1) := by decide +kernel
theorem dX4_readJoin_93 : decode cX4_readJoin 93 = .ok (.putfield 145, 3) := by decide +kernel
theorem dX4_readJoin_96 : decode cX4_readJoin 96 = .ok (.return_, 1) := by decide +kernel
theorem dX4_readPlayer_0 : decode cX4_readPlayer 0 = .ok (.aload_n 0, 1) := by decide +kernel
theorem dX4_readPlayer_1 : decode cX4_readPlayer 1 = .ok (.getfield 12, 3) := by decide +kernel
theorem dX4_readPlayer_4 : decode cX4_readPlayer 4 = .ok (.getfield 153, 3) := by decide +kernel
theorem dX4_readPlayer_7 : decode cX4_readPlayer 7 = .ok (.ifCond .lt 21, 3) := by decide +kernel
theorem dX4_readPlayer_10 : decode cX4_readPlayer 10 = .ok (.aload_n 0, 1) := by decide +kernel
theorem dX4_readPlayer_11 : decode cX4_readPlayer 11 = .ok (.getfield 12, 3) := by decide +kernel
theorem dX4_readPlayer_14 : decode cX4_readPlayer 14 = .ok (.getfield 153, 3) := by decide +kernel
theorem dX4_readPlayer_17 : decode cX4_readPlayer 17 = .ok (.aload_n 0, 1) := by decide +kernel
theorem dX4_readPlayer_18 : decode cX4_readPlayer 18 = .ok (.getfield 12, 3) := by decide +kernel
theorem dX4_readPlayer_21 : decode cX4_readPlayer 21 = .ok (.getfield 141, 3) := by decide +kernel
theorem dX4_readPlayer_24 : decode cX4_readPlayer 24 = .ok (.arraylength, 1) := by decide +kernel
theorem dX4_readPlayer_25 : decode cX4_readPlayer 25 = .ok (.if_icmp .lt 9, 3) := by decide +kernel
theorem dX4_readPlayer_28 : decode cX4_readPlayer 28 = .ok (.aload_n 0, 1) := by decide +kernel
theorem dX4_readPlayer_29 : decode cX4_readPlayer 29 = .ok (.iconst 5, 1) := by decide +kernel
theorem dX4_readPlayer_30 : decode cX4_readPlayer 30 = .ok (.invokevirtual 114, 3) := by decide +kernel
theorem dX4_readPlayer_33 : decode cX4_readPlayer 33 = .ok (.return_, 1) := by decide +kernel
theorem dX4_readPlayer_34 : decode cX4_readPlayer 34 = .ok (.aload_n 0, 1) := by decide +kernel
theorem dX4_readPlayer_35 : decode cX4_readPlayer 35 = .ok (.getfield 12, 3) := by decide +kernel
theorem dX4_readPlayer_38 : decode cX4_readPlayer 38 = .ok (.getfield 141, 3) := by decide +kernel
theorem dX4_readPlayer_41 : decode cX4_readPlayer 41 = .ok (.aload_n 0, 1) := by decide +kernel
theorem dX4_readPlayer_42 : decode cX4_readPlayer 42 = .ok (.getfield 12, 3) := by decide +kernel
theorem dX4_readPlayer_45 : decode cX4_readPlayer 45 = .ok (.getfield 153, 3) := by decide +kernel
theorem dX4_readPlayer_48 : decode cX4_readPlayer 48 = .ok (.aaload, 1) := by decide +kernel
theorem dX4_readPlayer_49 : decode cX4_readPlayer 49 = .ok (.astore_n 1, 1) := by decide +kernel
theorem dX4_readPlayer_50 : decode cX4_readPlayer 50 = .ok (.aload_n 0, 1) := by decide +kernel
theorem dX4_readPlayer_51 : decode cX4_readPlayer 51 = .ok (.ldc 109, 2) := by decide +kernel
theorem dX4_readPlayer_53 : decode cX4_readPlayer 53 = .ok (.invokevirtual 69, 3) := by decide +kernel
theorem dX4_readPlayer_56 : decode cX4_readPlayer 56 = .ok (.aload_n 1, 1) := by decide +kernel
theorem dX4_readPlayer_57 : decode cX4_readPlayer 57 = .ok (.aload_n 0, 1) := by decide +kernel
theorem dX4_readPlayer_58 : decode cX4_readPlayer 58 = .ok (.invokevirtual 156, 3) := by decide +kernel
theorem dX4_readPlayer_61 : decode cX4_readPlayer 61 = .ok (.putfield 160, 3) := by decide +kernel
theorem dX4_readPlayer_64 : decode cX4_readPlayer 64 = .ok (.aload_n 1, 1) := by decide +kernel
theorem dX4_readPlayer_65 : decode cX4_readPlayer 65 = .ok (.aload_n 0, 1) := by decide +kernel
theorem dX4_readPlayer_66 : decode cX4_readPlayer 66 = .ok (.invokevirtual 163, 3) := by decide +kernel
theorem dX4_readPlayer_69 : decode cX4_readPlayer 69 = .ok (.putfield 167, 3) := by decide +kernel
theorem dX4_readPlayer_72 : decode cX4_readPlayer 72 = .ok (.aload_n 1, 1) := by decide +kernel
theorem dX4_readPlayer_73 : decode cX4_readPlayer 73 = .ok (.aload_n 0, 1) := by decide +kernel
theorem dX4_readPlayer_74 : decode cX4_readPlayer 74 = .ok (.iconst 1, 1) := by decide +kernel
theorem dX4_readPlayer_75 : decode cX4_readPlayer 75 = .ok (.bipush 30, 2) := by decide +kernel
theorem dX4_readPlayer_77 : decode cX4_readPlayer 77 = .ok (.invokevirtual 73, 3) := by decide +kernel
theorem dX4_readPlayer_80 : decode cX4_readPlayer 80 = .ok (.putfield 170, 3) := by decide +kernel
theorem dX4_readPlayer_83 : decode cX4_readPlayer 83 = .ok (.aload_n 1, 1) := by decide +kernel
theorem dX4_readPlayer_84 : decode cX4_readPlayer 84 = .ok (.aload_n 0, 1) := by decide +kernel
theorem dX4_readPlayer_85 : decode cX4_readPlayer 85 = .ok (.iconst 1, 1) := by decide +kernel
theorem dX4_readPlayer_86 : decode cX4_readPlayer 86 = .ok (.bipush 9, 2) := by decide +kernel
theorem dX4_readPlayer_88 : decode cX4_readPlayer 88 = .ok (.invokevirtual 73, 3) := by decide +kernel
theorem dX4_readPlayer_91 : decode cX4_readPlayer 91 = .ok (.putfield 173, 3) := by decide +kernel
theorem dX4_readPlayer_94 : decode cX4_readPlayer 94 = .ok (.aload_n 0, 1) := by decide +kernel
theorem dX4_readPlayer_95 : decode cX4_readPlayer 95 = .ok (.aload_n 1, 1) := by decide +kernel
theorem dX4_readPlayer_96 : decode cX4_readPlayer 96 = .ok (.invokevirtual 176, 3) := by decide +kernel
theorem dX4_readPlayer_99 : decode cX4_readPlayer 99 = .ok (.aload_n 0, 1) := by decide +kernel
theorem dX4_readPlayer_100 : decode cX4_readPlayer 100 = .ok (.getfield 12, 3) := by decide +kernel
theorem dX4_readPlayer_103 : decode cX4_readPlayer 103 = .ok (.dup, 1) := by decide +kernel
theorem dX4_readPlayer_104 : decode cX4_readPlayer 104 = .ok (.getfield 153, 3) := by decide +kernel
theorem dX4_readPlayer_107 : decode cX4_readPlayer 107 = .ok (.iconst 1, 1) := by decide +kernel
theorem dX4_readPlayer_108 : decode cX4_readPlayer 108 = .ok (.iadd, 1) := by decide +kernel
theorem dX4_readPlayer_109 : decode cX4_readPlayer 109 = .ok (.putfield 153, 3) := by decide +kernel
theorem dX4_readPlayer_112 : decode cX4_readPlayer 112 = .ok (.return_, 1) := by decide +kernel
theorem dX4_readSizes_0 : decode cX4_readSizes 0 = .ok (.iconst 0, 1) := by decide +kernel
theorem dX4_readSizes_1 : decode cX4_readSizes 1 = .ok (.istore_n 2, 1) := by decide +kernel
theorem dX4_readSizes_2 : decode cX4_readSizes 2 = .ok (.iconst 0, 1) := by decide +kernel
theorem dX4_readSizes_3 : decode cX4_readSizes 3 = .ok (.istore_n 3, 1) := by decide +kernel
theorem dX4_readSizes_4 : decode cX4_readSizes 4 = .ok (.iload_n 3, 1) := by decide +kernel
theorem dX4_readSizes_5 : decode cX4_readSizes 5 = .ok (.iconst 4, 1) := by decide +kernel
theorem dX4_readSizes_6 : decode cX4_readSizes 6 = .ok (.if_icmp .gt 91, 3) := by decide +kernel
theorem dX4_readSizes_9 : decode cX4_readSizes 9 = .ok (.aload_n 0, 1) := by decide +kernel
theorem dX4_readSizes_10 : decode cX4_readSizes 10 = .ok (.getfield 32, 3) := by decide +kernel
theorem dX4_readSizes_13 : decode cX4_readSizes 13 = .ok (.ifCond .ne 84, 3) := by decide +kernel
theorem dX4_readSizes_16 : decode cX4_readSizes 16 = .ok (.iload_n 3, 1) := by decide +kernel
theorem dX4_readSizes_17 : decode cX4_readSizes 17 = .ok (.ifCond .eq 11, 3) := by decide +kernel
theorem dX4_readSizes_20 : decode cX4_readSizes 20 = .ok (.aload_n 0, 1) := by decide +kernel
theorem dX4_readSizes_21 : decode cX4_readSizes 21 = .ok (.getfield 47, 3) := by decide +kernel
theorem dX4_readSizes_24 : decode cX4_readSizes 24 = .ok (.iconst 2, 1) := by decide +kernel
theorem dX4_readSizes_25 : decode cX4_readSizes 25 = .ok (.if_icmp .ne 72, 3) := by decide +kernel
theorem dX4_readSizes_28 : decode cX4_readSizes 28 = .ok (.aload_n 0, 1) := by decide +kernel
theorem dX4_readSizes_29 : decode cX4_readSizes 29 = .ok (.iconst 1, 1) := by decide +kernel
theorem dX4_readSizes_30 : decode cX4_readSizes 30 = .ok (.sipush 9999, 3) := by decide +kernel
theorem dX4_readSizes_33 : decode cX4_readSizes 33 = .ok (.invokevirtual 128, 3) := by decide +kernel
theorem dX4_readSizes_36 : decode cX4_readSizes 36 = .ok (.iload_n 3, 1) := by decide +kernel
theorem dX4_readSizes_37 : decode cX4_readSizes 37 = .ok (.aload_n 1, 1) := by decide +kernel
theorem dX4_readSizes_38 : decode cX4_readSizes 38 = .ok (.getfield 180, 3) := by decide +kernel
theorem dX4_readSizes_41 : decode cX4_readSizes 41 = .ok (.arraylength, 1) := by decide +kernel
theorem dX4_readSizes_42 : decode cX4_readSizes 42 = .ok (.if_icmp .lt 9, 3) := by decide +kernel
theorem dX4_readSizes_45 : decode cX4_readSizes 45 = .ok (.aload_n 0, 1) := by decide +kernel
theorem dX4_readSizes_46 : decode cX4_readSizes 46 = .ok (.iconst 5, 1) := by decide +kernel
theorem dX4_readSizes_47 : decode cX4_readSizes 47 = .ok (.invokevirtual 114, 3) := by decide +kernel
theorem dX4_readSizes_50 : decode cX4_readSizes 50 = .ok (.return_, 1) := by decide +kernel
theorem dX4_readSizes_51 : decode cX4_readSizes 51 = .ok (.aload_n 0, 1) := by decide +kernel
theorem dX4_readSizes_52 : decode cX4_readSizes 52 = .ok (.getfield 131, 3) := by decide +kernel
theorem dX4_readSizes_55 : decode cX4_readSizes 55 = .ok (.iload_n 2, 1) := by decide +kernel
theorem dX4_readSizes_56 : decode cX4_readSizes 56 = .ok (.if_icmp .gt 9, 3) := by decide +kernel
theorem dX4_readSizes_59 : decode cX4_readSizes 59 = .ok (.aload_n 0, 1) := by decide +kernel
theorem dX4_readSizes_60 : decode cX4_readSizes 60 = .ok (.bipush 6, 2) := by decide +kernel
theorem dX4_readSizes_62 : decode cX4_readSizes 62 = .ok (.invokevirtual 114, 3) := by decide +kernel
theorem dX4_readSizes_65 : decode cX4_readSizes 65 = .ok (.aload_n 1, 1) := by decide +kernel
theorem dX4_readSizes_66 : decode cX4_readSizes 66 = .ok (.getfield 180, 3) := by decide +kernel
theorem dX4_readSizes_69 : decode cX4_readSizes 69 = .ok (.iload_n 3, 1) := by decide +kernel
theorem dX4_readSizes_70 : decode cX4_readSizes 70 = .ok (.aload_n 0, 1) := by decide +kernel
theorem dX4_readSizes_71 : decode cX4_readSizes 71 = .ok (.getfield 131, 3) := by decide +kernel
theorem dX4_readSizes_74 : decode cX4_readSizes 74 = .ok (.iastore, 1) := by decide +kernel
theorem dX4_readSizes_75 : decode cX4_readSizes 75 = .ok (.aload_n 1, 1) := by decide +kernel
theorem dX4_readSizes_76 : decode cX4_readSizes 76 = .ok (.iload_n 3, 1) := by decide +kernel
theorem dX4_readSizes_77 : decode cX4_readSizes 77 = .ok (.iconst 1, 1) := by decide +kernel
theorem dX4_readSizes_78 : decode cX4_readSizes 78 = .ok (.iadd, 1) := by decide +kernel
theorem dX4_readSizes_79 : decode cX4_readSizes 79 = .ok (.putfield 184, 3) := by decide +kernel
theorem dX4_readSizes_82 : decode cX4_readSizes 82 = .ok (.aload_n 0, 1) := by decide +kernel
theorem dX4_readSizes_83 : decode cX4_readSizes 83 = .ok (.getfield 131, 3) := by decide +kernel
theorem dX4_readSizes_86 : decode cX4_readSizes 86 = .ok (.istore_n 2, 1) := by decide +kernel
theorem dX4_readSizes_87 : decode cX4_readSizes 87 = .ok (.aload_n 0, 1) := by decide +kernel
theorem dX4_readSizes_88 : decode cX4_readSizes 88 = .ok (.invokevirtual 41, 3) := by decide +kernel
theorem dX4_readSizes_91 : decode cX4_readSizes 91 = .ok (.iinc 3 1, 3) := by decide +kernel
theorem dX4_readSizes_94 : decode cX4_readSizes 94 = .ok (.goto (-90), 3) := by decide +kernel
theorem dX4_readSizes_97 : decode cX4_readSizes 97 = .ok (.return_, 1) := by decide +kernel
theorem dX4_takeNewName_0 : decode cX4_takeNewName 0 = .ok (.aload_n 0, 1) := by decide +kernel
theorem dX4_takeNewName_1 : decode cX4_takeNewName 1 = .ok (.getfield 47, 3) := by decide +kernel
theorem dX4_takeNewName_4 : decode cX4_takeNewName 4 = .ok (.iconst 1, 1) := by decide +kernel
theorem dX4_takeNewName_5 : decode cX4_takeNewName 5 = .ok (.if_icmp .eq 11, 3) := by decide +kernel
theorem dX4_takeNewName_8 : decode cX4_takeNewName 8 = .ok (.aload_n 0, 1) := by decide +kernel
theorem dX4_takeNewName_9 : decode cX4_takeNewName 9 = .ok (.iconst 1, 1) := by decide +kernel
theorem dX4_takeNewName_10 : decode cX4_takeNewName 10 = .ok (.invokevirtual 114, 3) := by decide +kernel
theorem dX4_takeNewName_13 : decode cX4_takeNewName 13 = .ok (.goto 23, 3) := by decide +kernel
theorem dX4_takeNewName_16 : decode cX4_takeNewName 16 = .ok (.aload_n 0, 1) := by decide +kernel
theorem dX4_takeNewName_17 : decode cX4_takeNewName 17 = .ok (.getfield 12, 3) := by decide +kernel
theorem dX4_takeNewName_20 : decode cX4_takeNewName 20 = .ok (.aload_n 0, 1) := by decide +kernel
theorem dX4_takeNewName_21 : decode cX4_takeNewName 21 = .ok (.getfield 63, 3) := by decide +kernel
theorem dX4_takeNewName_24 : decode cX4_takeNewName 24 = .ok (.invokevirtual 137, 3) := by decide +kernel
theorem dX4_takeNewName_27 : decode cX4_takeNewName 27 = .ok (.iconst (-1), 1) := by decide +kernel
theorem dX4_takeNewName_28 : decode cX4_takeNewName 28 = .ok (.if_icmp .eq 8, 3) := by decide +kernel
theorem dX4_takeNewName_31 : decode cX4_takeNewName 31 = .ok (.aload_n 0, 1) := by decide +kernel
theorem dX4_takeNewName_32 : decode cX4_takeNewName 32 = .ok (.iconst 2, 1) := by decide +kernel
theorem dX4_takeNewName_33 : decode cX4_takeNewName 33 = .ok (.invokevirtual 114, 3) := by decide +kernel
theorem dX4_takeNewName_36 : decode cX4_takeNewName 36 = .ok (.aload_n 0, 1) := by decide +kernel
theorem dX4_takeNewName_37 : decode cX4_takeNewName 37 = .ok (.getfield 63, 3) := by decide +kernel
theorem dX4_takeNewName_40 : decode cX4_takeNewName 40 = .ok (.lstore_n 1, 1) := by decide +kernel
theorem dX4_takeNewName_41 : decode cX4_takeNewName 41 = .ok (.aload_n 0, 1) := by decide +kernel
theorem dX4_takeNewName_42 : decode cX4_takeNewName 42 = .ok (.invokevirtual 41, 3) := by decide +kernel
theorem dX4_takeNewName_45 : decode cX4_takeNewName 45 = .ok (.lload_n 1, 1) := by decide +kernel
theorem dX4_takeNewName_46 : decode cX4_takeNewName 46 = .ok (.lreturn, 1) := by decide +kernel
theorem dX4_takeRule_0 : decode cX4_takeRule 0 = .ok (.aload_n 0, 1) := by decide +kernel
theorem dX4_takeRule_1 : decode cX4_takeRule 1 = .ok (.ldc 187, 2) := by decide +kernel
theorem dX4_takeRule_3 : decode cX4_takeRule 3 = .ok (.invokevirtual 92, 3) := by decide +kernel
theorem dX4_takeRule_6 : decode cX4_takeRule 6 = .ok (.ifCond .eq 7, 3) := by decide +kernel
theorem dX4_takeRule_9 : decode cX4_takeRule 9 = .ok (.iconst 0, 1) := by decide +kernel
theorem dX4_takeRule_10 : decode cX4_takeRule 10 = .ok (.goto 43, 3) := by decide +kernel
theorem dX4_takeRule_13 : decode cX4_takeRule 13 = .ok (.aload_n 0, 1) := by decide +kernel
theorem dX4_takeRule_14 : decode cX4_takeRule 14 = .ok (.ldc 189, 2) := by decide +kernel
theorem dX4_takeRule_16 : decode cX4_takeRule 16 = .ok (.invokevirtual 92, 3) := by decide +kernel
theorem dX4_takeRule_19 : decode cX4_takeRule 19 = .ok (.ifCond .eq 7, 3) := by decide +kernel
theorem dX4_takeRule_22 : decode cX4_takeRule 22 = .ok (.iconst 1, 1) := by decide +kernel
theorem dX4_takeRule_23 : decode cX4_takeRule 23 = .ok (.goto 30, 3) := by decide +kernel
theorem dX4_takeRule_26 : decode cX4_takeRule 26 = .ok (.aload_n 0, 1) := by decide +kernel
theorem dX4_takeRule_27 : decode cX4_takeRule 27 = .ok (.ldc 191, 2) := by decide +kernel
theorem dX4_takeRule_29 : decode cX4_takeRule 29 = .ok (.invokevirtual 92, 3) := by decide +kernel
theorem dX4_takeRule_32 : decode cX4_takeRule 32 = .ok (.ifCond .eq 7, 3) := by decide +kernel
theorem dX4_takeRule_35 : decode cX4_takeRule 35 = .ok (.iconst 2, 1) := by decide +kernel
theorem dX4_takeRule_36 : decode cX4_takeRule 36 = .ok (.goto 17, 3) := by decide +kernel
theorem dX4_takeRule_39 : decode cX4_takeRule 39 = .ok (.aload_n 0, 1) := by decide +kernel
theorem dX4_takeRule_40 : decode cX4_takeRule 40 = .ok (.ldc 193, 2) := by decide +kernel
theorem dX4_takeRule_42 : decode cX4_takeRule 42 = .ok (.invokevirtual 92, 3) := by decide +kernel
theorem dX4_takeRule_45 : decode cX4_takeRule 45 = .ok (.ifCond .eq 7, 3) := by decide +kernel
theorem dX4_takeRule_48 : decode cX4_takeRule 48 = .ok (.iconst 3, 1) := by decide +kernel
theorem dX4_takeRule_49 : decode cX4_takeRule 49 = .ok (.goto 4, 3) := by decide +kernel
theorem dX4_takeRule_52 : decode cX4_takeRule 52 = .ok (.iconst (-1), 1) := by decide +kernel
theorem dX4_takeRule_53 : decode cX4_takeRule 53 = .ok (.istore_n 1, 1) := by decide +kernel
theorem dX4_takeRule_54 : decode cX4_takeRule 54 = .ok (.iload_n 1, 1) := by decide +kernel
theorem dX4_takeRule_55 : decode cX4_takeRule 55 = .ok (.iconst (-1), 1) := by decide +kernel
theorem dX4_takeRule_56 : decode cX4_takeRule 56 = .ok (.if_icmp .ne 8, 3) := by decide +kernel
theorem dX4_takeRule_59 : decode cX4_takeRule 59 = .ok (.aload_n 0, 1) := by decide +kernel
theorem dX4_takeRule_60 : decode cX4_takeRule 60 = .ok (.iconst 1, 1) := by decide +kernel
theorem dX4_takeRule_61 : decode cX4_takeRule 61 = .ok (.invokevirtual 114, 3) := by decide +kernel
theorem dX4_takeRule_64 : decode cX4_takeRule 64 = .ok (.aload_n 0, 1) := by decide +kernel
theorem dX4_takeRule_65 : decode cX4_takeRule 65 = .ok (.invokevirtual 41, 3) := by decide +kernel
theorem dX4_takeRule_68 : decode cX4_takeRule 68 = .ok (.iload_n 1, 1) := by decide +kernel
theorem dX4_takeRule_69 : decode cX4_takeRule 69 = .ok (.ireturn, 1) := by decide +kernel
theorem dX4_takeWord_0 : decode cX4_takeWord 0 = .ok (.aload_n 0, 1) := by decide +kernel
theorem dX4_takeWord_1 : decode cX4_takeWord 1 = .ok (.aload_n 1, 1) := by decide +kernel
theorem dX4_takeWord_2 : decode cX4_takeWord 2 = .ok (.invokevirtual 92, 3) := by decide +kernel
theorem dX4_takeWord_5 : decode cX4_takeWord 5 = .ok (.ifCond .ne 8, 3) := by decide +kernel
theorem dX4_takeWord_8 : decode cX4_takeWord 8 = .ok (.aload_n 0, 1) := by decide +kernel
theorem dX4_takeWord_9 : decode cX4_takeWord 9 = .ok (.iconst 1, 1) := by decide +kernel
theorem dX4_takeWord_10 : decode cX4_takeWord 10 = .ok (.invokevirtual 114, 3) := by decide +kernel
theorem dX4_takeWord_13 : decode cX4_takeWord 13 = .ok (.aload_n 0, 1) := by decide +kernel
theorem dX4_takeWord_14 : decode cX4_takeWord 14 = .ok (.invokevirtual 41, 3) := by decide +kernel
theorem dX4_takeWord_17 : decode cX4_takeWord 17 = .ok (.return_, 1) := by decide +kernel
theorem dX4_takeSemicolon_0 : decode cX4_takeSemicolon 0 = .ok (.aload_n 0, 1) := by decide +kernel
theorem dX4_takeSemicolon_1 : decode cX4_takeSemicolon 1 = .ok (.getfield 47, 3) := by decide +kernel
theorem dX4_takeSemicolon_4 : decode cX4_takeSemicolon 4 = .ok (.iconst 3, 1) := by decide +kernel
theorem dX4_takeSemicolon_5 : decode cX4_takeSemicolon 5 = .ok (.if_icmp .eq 8, 3) := by decide +kernel
theorem dX4_takeSemicolon_8 : decode cX4_takeSemicolon 8 = .ok (.aload_n 0, 1) := by decide +kernel
theorem dX4_takeSemicolon_9 : decode cX4_takeSemicolon 9 = .ok (.iconst 1, 1) := by decide +kernel
theorem dX4_takeSemicolon_10 : decode cX4_takeSemicolon 10 = .ok (.invokevirtual 114, 3) := by decide +kernel
theorem dX4_takeSemicolon_13 : decode cX4_takeSemicolon 13 = .ok (.aload_n 0, 1) := by decide +kernel
theorem dX4_takeSemicolon_14 : decode cX4_takeSemicolon 14 = .ok (.invokevirtual 41, 3) := by decide +kernel
theorem dX4_takeSemicolon_17 : decode cX4_takeSemicolon 17 = .ok (.return_, 1) := by decide +kernel
theorem dX4_takeNumber_0 : decode cX4_takeNumber 0 = .ok (.aload_n 0, 1) := by decide +kernel
theorem dX4_takeNumber_1 : decode cX4_takeNumber 1 = .ok (.iload_n 1, 1) := by decide +kernel
theorem dX4_takeNumber_2 : decode cX4_takeNumber 2 = .ok (.iload_n 2, 1) := by decide +kernel
theorem dX4_takeNumber_3 : decode cX4_takeNumber 3 = .ok (.invokevirtual 128, 3) := by decide +kernel
theorem dX4_takeNumber_6 : decode cX4_takeNumber 6 = .ok (.aload_n 0, 1) := by decide +kernel
theorem dX4_takeNumber_7 : decode cX4_takeNumber 7 = .ok (.getfield 131, 3) := by decide +kernel
theorem dX4_takeNumber_10 : decode cX4_takeNumber 10 = .ok (.istore_n 3, 1) := by decide +kernel
theorem dX4_takeNumber_11 : decode cX4_takeNumber 11 = .ok (.aload_n 0, 1) := by decide +kernel
theorem dX4_takeNumber_12 : decode cX4_takeNumber 12 = .ok (.invokevirtual 41, 3) := by decide +kernel
theorem dX4_takeNumber_15 : decode cX4_takeNumber 15 = .ok (.iload_n 3, 1) := by decide +kernel
theorem dX4_takeNumber_16 : decode cX4_takeNumber 16 = .ok (.ireturn, 1) := by decide +kernel
theorem dX4_testNumber_0 : decode cX4_testNumber 0 = .ok (.aload_n 0, 1) := by decide +kernel
theorem dX4_testNumber_1 : decode cX4_testNumber 1 = .ok (.getfield 47, 3) := by decide +kernel
theorem dX4_testNumber_4 : decode cX4_testNumber 4 = .ok (.iconst 2, 1) := by decide +kernel
theorem dX4_testNumber_5 : decode cX4_testNumber 5 = .ok (.if_icmp .eq 11, 3) := by decide +kernel
theorem dX4_testNumber_8 : decode cX4_testNumber 8 = .ok (.aload_n 0, 1) := by decide +kernel
theorem dX4_testNumber_9 : decode cX4_testNumber 9 = .ok (.iconst 1, 1) := by decide +kernel
theorem dX4_testNumber_10 : decode cX4_testNumber 10 = .ok (.invokevirtual 114, 3) := by decide +kernel
theorem dX4_testNumber_13 : decode cX4_testNumber 13 = .ok (.goto 24, 3) := by decide +kernel
theorem dX4_testNumber_16 : decode cX4_testNumber 16 = .ok (.aload_n 0, 1) := by decide +kernel
theorem dX4_testNumber_17 : decode cX4_testNumber 17 = .ok (.getfield 131, 3) := by decide +kernel
theorem dX4_testNumber_20 : decode cX4_testNumber 20 = .ok (.iload_n 1, 1) := by decide +kernel
theorem dX4_testNumber_21 : decode cX4_testNumber 21 = .ok (.if_icmp .lt 11, 3) := by decide +kernel
theorem dX4_testNumber_24 : decode cX4_testNumber 24 = .ok (.aload_n 0, 1) := by decide +kernel
theorem dX4_testNumber_25 : decode cX4_testNumber 25 = .ok (.getfield 131, 3) := by decide +kernel
theorem dX4_testNumber_28 : decode cX4_testNumber 28 = .ok (.iload_n 2, 1) := by decide +kernel
theorem dX4_testNumber_29 : decode cX4_testNumber 29 = .ok (.if_icmp .le 8, 3) := by decide +kernel
theorem dX4_testNumber_32 : decode cX4_testNumber 32 = .ok (.aload_n 0, 1) := by decide +kernel
theorem dX4_testNumber_33 : decode cX4_testNumber 33 = .ok (.iconst 3, 1) := by decide +kernel
theorem dX4_testNumber_34 : decode cX4_testNumber 34 = .ok (.invokevirtual 114, 3) := by decide +kernel
theorem dX4_testNumber_37 : decode cX4_testNumber 37 = .ok (.return_, 1) := by decide +kernel
theorem dX4_fail_0 : decode cX4_fail 0 = .ok (.aload_n 0, 1) := by decide +kernel
theorem dX4_fail_1 : decode cX4_fail 1 = .ok (.getfield 32, 3) := by decide +kernel
theorem dX4_fail_4 : decode cX4_fail 4 = .ok (.ifCond .ne 16, 3) := by decide +kernel
theorem dX4_fail_7 : decode cX4_fail 7 = .ok (.aload_n 0, 1) := by decide +kernel
theorem dX4_fail_8 : decode cX4_fail 8 = .ok (.iload_n 1, 1) := by decide +kernel
theorem dX4_fail_9 : decode cX4_fail 9 = .ok (.putfield 32, 3) := by decide +kernel
theorem dX4_fail_12 : decode cX4_fail 12 = .ok (.aload_n 0, 1) := by decide +kernel
theorem dX4_fail_13 : decode cX4_fail 13 = .ok (.aload_n 0, 1) := by decide +kernel
theorem dX4_fail_14 : decode cX4_fail 14 = .ok (.getfield 56, 3) := by decide +kernel
theorem dX4_fail_17 : decode cX4_fail 17 = .ok (.putfield 22, 3) := by decide +kernel
theorem dX4_fail_20 : decode cX4_fail 20 = .ok (.return_, 1) := by decide +kernel
theorem dX4_isWord_0 : decode cX4_isWord 0 = .ok (.aload_n 0, 1) := by decide +kernel
theorem dX4_isWord_1 : decode cX4_isWord 1 = .ok (.getfield 47, 3) := by decide +kernel
theorem dX4_isWord_4 : decode cX4_isWord 4 = .ok (.iconst 1, 1) := by decide +kernel
theorem dX4_isWord_5 : decode cX4_isWord 5 = .ok (.if_icmp .ne 19, 3) := by decide +kernel
theorem dX4_isWord_8 : decode cX4_isWord 8 = .ok (.aload_n 0, 1) := by decide +kernel
theorem dX4_isWord_9 : decode cX4_isWord 9 = .ok (.getfield 63, 3) := by decide +kernel
theorem dX4_isWord_12 : decode cX4_isWord 12 = .ok (.aload_n 1, 1) := by decide +kernel
theorem dX4_isWord_13 : decode cX4_isWord 13 = .ok (.invokestatic 195, 3) := by decide +kernel
theorem dX4_isWord_16 : decode cX4_isWord 16 = .ok (.lcmp, 1) := by decide +kernel
theorem dX4_isWord_17 : decode cX4_isWord 17 = .ok (.ifCond .ne 7, 3) := by decide +kernel
theorem dX4_isWord_20 : decode cX4_isWord 20 = .ok (.iconst 1, 1) := by decide +kernel
theorem dX4_isWord_21 : decode cX4_isWord 21 = .ok (.goto 4, 3) := by decide +kernel
theorem dX4_isWord_24 : decode cX4_isWord 24 = .ok (.iconst 0, 1) := by decide +kernel
theorem dX4_isWord_25 : decode cX4_isWord 25 = .ok (.ireturn, 1) := by decide +kernel
theorem dX4_readToken_0 : decode cX4_readToken 0 = .ok (.aload_n 0, 1) := by decide +kernel
theorem dX4_readToken_1 : decode cX4_readToken 1 = .ok (.getfield 32, 3) := by decide +kernel
theorem dX4_readToken_4 : decode cX4_readToken 4 = .ok (.ifCond .eq 4, 3) := by decide +kernel
theorem dX4_readToken_7 : decode cX4_readToken 7 = .ok (.return_, 1) := by decide +kernel
theorem dX4_readToken_8 : decode cX4_readToken 8 = .ok (.aload_n 0, 1) := by decide +kernel
theorem dX4_readToken_9 : decode cX4_readToken 9 = .ok (.getfield 38, 3) := by decide +kernel
theorem dX4_readToken_12 : decode cX4_readToken 12 = .ok (.aload_n 0, 1) := by decide +kernel
theorem dX4_readToken_13 : decode cX4_readToken 13 = .ok (.getfield 35, 3) := by decide +kernel
theorem dX4_readToken_16 : decode cX4_readToken 16 = .ok (.if_icmp .ge 42, 3) := by decide +kernel
theorem dX4_readToken_19 : decode cX4_readToken 19 = .ok (.aload_n 0, 1) := by decide +kernel
theorem dX4_readToken_20 : decode cX4_readToken 20 = .ok (.aload_n 0, 1) := by decide +kernel
theorem dX4_readToken_21 : decode cX4_readToken 21 = .ok (.getfield 38, 3) := by decide +kernel
theorem dX4_readToken_24 : decode cX4_readToken 24 = .ok (.invokevirtual 59, 3) := by decide +kernel
theorem dX4_readToken_27 : decode cX4_readToken 27 = .ok (.bipush 32, 2) := by decide +kernel
theorem dX4_readToken_29 : decode cX4_readToken 29 = .ok (.if_icmp .eq 16, 3) := by decide +kernel
theorem dX4_readToken_32 : decode cX4_readToken 32 = .ok (.aload_n 0, 1) := by decide +kernel
theorem dX4_readToken_33 : decode cX4_readToken 33 = .ok (.aload_n 0, 1) := by decide +kernel
theorem dX4_readToken_34 : decode cX4_readToken 34 = .ok (.getfield 38, 3) := by decide +kernel
theorem dX4_readToken_37 : decode cX4_readToken 37 = .ok (.invokevirtual 59, 3) := by decide +kernel
theorem dX4_readToken_40 : decode cX4_readToken 40 = .ok (.bipush 10, 2) := by decide +kernel
theorem dX4_readToken_42 : decode cX4_readToken 42 = .ok (.if_icmp .ne 16, 3) := by decide +kernel
theorem dX4_readToken_45 : decode cX4_readToken 45 = .ok (.aload_n 0, 1) := by decide +kernel
theorem dX4_readToken_46 : decode cX4_readToken 46 = .ok (.dup, 1) := by decide +kernel
theorem dX4_readToken_47 : decode cX4_readToken 47 = .ok (.getfield 38, 3) := by decide +kernel
theorem dX4_readToken_50 : decode cX4_readToken 50 = .ok (.iconst 1, 1) := by decide +kernel
theorem dX4_readToken_51 : decode cX4_readToken 51 = .ok (.iadd, 1) := by decide +kernel
theorem dX4_readToken_52 : decode cX4_readToken 52 = .ok (.putfield 38, 3) := by decide +kernel
theorem dX4_readToken_55 : decode cX4_readToken 55 = .ok (.goto (-47), 3) := by decide +kernel
theorem dX4_readToken_58 : decode cX4_readToken 58 = .ok (.aload_n 0, 1) := by decide +kernel
theorem dX4_readToken_59 : decode cX4_readToken 59 = .ok (.aload_n 0, 1) := by decide +kernel
theorem dX4_readToken_60 : decode cX4_readToken 60 = .ok (.getfield 38, 3) := by decide +kernel
theorem dX4_readToken_63 : decode cX4_readToken 63 = .ok (.putfield 56, 3) := by decide +kernel
theorem dX4_readToken_66 : decode cX4_readToken 66 = .ok (.aload_n 0, 1) := by decide +kernel
theorem dX4_readToken_67 : decode cX4_readToken 67 = .ok (.lconst 0, 1) := by decide +kernel
theorem dX4_readToken_68 : decode cX4_readToken 68 = .ok (.putfield 63, 3) := by decide +kernel
theorem dX4_readToken_71 : decode cX4_readToken 71 = .ok (.aload_n 0, 1) := by decide +kernel
theorem dX4_readToken_72 : decode cX4_readToken 72 = .ok (.iconst 0, 1) := by decide +kernel
theorem dX4_readToken_73 : decode cX4_readToken 73 = .ok (.putfield 131, 3) := by decide +kernel
theorem dX4_readToken_76 : decode cX4_readToken 76 = .ok (.aload_n 0, 1) := by decide +kernel
theorem dX4_readToken_77 : decode cX4_readToken 77 = .ok (.aload_n 0, 1) := by decide +kernel
theorem dX4_readToken_78 : decode cX4_readToken 78 = .ok (.getfield 56, 3) := by decide +kernel
theorem dX4_readToken_81 : decode cX4_readToken 81 = .ok (.invokevirtual 59, 3) := by decide +kernel
theorem dX4_readToken_84 : decode cX4_readToken 84 = .ok (.istore_n 1, 1) := by decide +kernel
theorem dX4_readToken_85 : decode cX4_readToken 85 = .ok (.iload_n 1, 1) := by decide +kernel
theorem dX4_readToken_86 : decode cX4_readToken 86 = .ok (.iconst (-1), 1) := by decide +kernel
theorem dX4_readToken_87 : decode cX4_readToken 87 = .ok (.if_icmp .ne 11, 3) := by decide +kernel
theorem dX4_readToken_90 : decode cX4_readToken 90 = .ok (.aload_n 0, 1) := by decide +kernel
theorem dX4_readToken_91 : decode cX4_readToken 91 = .ok (.iconst 0, 1) := by decide +kernel
theorem dX4_readToken_92 : decode cX4_readToken 92 = .ok (.putfield 47, 3) := by decide +kernel
theorem dX4_readToken_95 : decode cX4_readToken 95 = .ok (.goto 213, 3) := by decide +kernel
theorem dX4_readToken_98 : decode cX4_readToken 98 = .ok (.iload_n 1, 1) := by decide +kernel
theorem dX4_readToken_99 : decode cX4_readToken 99 = .ok (.invokestatic 199, 3) := by decide +kernel
theorem dX4_readToken_102 : decode cX4_readToken 102 = .ok (.ifCond .eq 88, 3) := by decide +kernel
theorem dX4_readToken_105 : decode cX4_readToken 105 = .ok (.aload_n 0, 1) := by decide +kernel
theorem dX4_readToken_106 : decode cX4_readToken 106 = .ok (.getfield 38, 3) := by decide +kernel
theorem dX4_readToken_109 : decode cX4_readToken 109 = .ok (.aload_n 0, 1) := by decide +kernel
theorem dX4_readToken_110 : decode cX4_readToken 110 = .ok (.getfield 35, 3) := by decide +kernel
theorem dX4_readToken_113 : decode cX4_readToken 113 = .ok (.if_icmp .ge 51, 3) := by decide +kernel
theorem dX4_readToken_116 : decode cX4_readToken 116 = .ok (.aload_n 0, 1) := by decide +kernel
theorem dX4_readToken_117 : decode cX4_readToken 117 = .ok (.aload_n 0, 1) := by decide +kernel
theorem dX4_readToken_118 : decode cX4_readToken 118 = .ok (.getfield 38, 3) := by decide +kernel
theorem dX4_readToken_121 : decode cX4_readToken 121 = .ok (.invokevirtual 59, 3) := by decide +kernel
theorem dX4_readToken_124 : decode cX4_readToken 124 = .ok (.invokestatic 199, 3) := by decide +kernel
theorem dX4_readToken_127 : decode cX4_readToken 127 = .ok (.ifCond .eq 37, 3) := by decide +kernel
theorem dX4_readToken_130 : decode cX4_readToken 130 = .ok (.aload_n 0, 1) := by decide +kernel
theorem dX4_readToken_131 : decode cX4_readToken 131 = .ok (.aload_n 0, 1) := by decide +kernel
theorem dX4_readToken_132 : decode cX4_readToken 132 = .ok (.getfield 63, 3) := by decide +kernel
theorem dX4_readToken_135 : decode cX4_readToken 135 = .ok (.bipush 8, 2) := by decide +kernel
theorem dX4_readToken_137 : decode cX4_readToken 137 = .ok (.lshl, 1) := by decide +kernel
theorem dX4_readToken_138 : decode cX4_readToken 138 = .ok (.aload_n 0, 1) := by decide +kernel
theorem dX4_readToken_139 : decode cX4_readToken 139 = .ok (.aload_n 0, 1) := by decide +kernel
theorem dX4_readToken_140 : decode cX4_readToken 140 = .ok (.getfield 38, 3) := by decide +kernel
theorem dX4_readToken_143 : decode cX4_readToken 143 = .ok (.invokevirtual 59, 3) := by decide +kernel
theorem dX4_readToken_146 : decode cX4_readToken 146 = .ok (.i2l, 1) := by decide +kernel
theorem dX4_readToken_147 : decode cX4_readToken 147 = .ok (.lor, 1) := by decide +kernel
theorem dX4_readToken_148 : decode cX4_readToken 148 = .ok (.putfield 63, 3) := by decide +kernel
theorem dX4_readToken_151 : decode cX4_readToken 151 = .ok (.aload_n 0, 1) := by decide +kernel
theorem dX4_readToken_152 : decode cX4_readToken 152 = .ok (.dup, 1) := by decide +kernel
theorem dX4_readToken_153 : decode cX4_readToken 153 = .ok (.getfield 38, 3) := by decide +kernel
theorem dX4_readToken_156 : decode cX4_readToken 156 = .ok (.iconst 1, 1) := by decide +kernel
theorem dX4_readToken_157 : decode cX4_readToken 157 = .ok (.iadd, 1) := by decide +kernel
theorem dX4_readToken_158 : decode cX4_readToken 158 = .ok (.putfield 38, 3) := by decide +kernel
theorem dX4_readToken_161 : decode cX4_readToken 161 = .ok (.goto (-56), 3) := by decide +kernel
theorem dX4_readToken_164 : decode cX4_readToken 164 = .ok (.aload_n 0, 1) := by decide +kernel
theorem dX4_readToken_165 : decode cX4_readToken 165 = .ok (.aload_n 0, 1) := by decide +kernel
theorem dX4_readToken_166 : decode cX4_readToken 166 = .ok (.getfield 38, 3) := by decide +kernel
theorem dX4_readToken_169 : decode cX4_readToken 169 = .ok (.aload_n 0, 1) := by decide +kernel
theorem dX4_readToken_170 : decode cX4_readToken 170 = .ok (.getfield 56, 3) := by decide +kernel
theorem dX4_readToken_173 : decode cX4_readToken 173 = .ok (.isub, 1) := by decide +kernel
theorem dX4_readToken_174 : decode cX4_readToken 174 = .ok (.bipush 8, 2) := by decide +kernel
theorem dX4_readToken_176 : decode cX4_readToken 176 = .ok (.if_icmp .gt 7, 3) := by decide +kernel
theorem dX4_readToken_179 : decode cX4_readToken 179 = .ok (.iconst 1, 1) := by decide +kernel
theorem dX4_readToken_180 : decode cX4_readToken 180 = .ok (.goto 4, 3) := by decide +kernel
theorem dX4_readToken_183 : decode cX4_readToken 183 = .ok (.iconst 4, 1) := by decide +kernel
theorem dX4_readToken_184 : decode cX4_readToken 184 = .ok (.putfield 47, 3) := by decide +kernel
theorem dX4_readToken_187 : decode cX4_readToken 187 = .ok (.goto 121, 3) := by decide +kernel
theorem dX4_readToken_190 : decode cX4_readToken 190 = .ok (.iload_n 1, 1) := by decide +kernel
theorem dX4_readToken_191 : decode cX4_readToken 191 = .ok (.invokestatic 203, 3) := by decide +kernel
theorem dX4_readToken_194 : decode cX4_readToken 194 = .ok (.ifCond .eq 89, 3) := by decide +kernel
theorem dX4_readToken_197 : decode cX4_readToken 197 = .ok (.aload_n 0, 1) := by decide +kernel
theorem dX4_readToken_198 : decode cX4_readToken 198 = .ok (.getfield 38, 3) := by decide +kernel
theorem dX4_readToken_201 : decode cX4_readToken 201 = .ok (.aload_n 0, 1) := by decide +kernel
theorem dX4_readToken_202 : decode cX4_readToken 202 = .ok (.getfield 35, 3) := by decide +kernel
theorem dX4_readToken_205 : decode cX4_readToken 205 = .ok (.if_icmp .ge 53, 3) := by decide +kernel
theorem dX4_readToken_208 : decode cX4_readToken 208 = .ok (.aload_n 0, 1) := by decide +kernel
theorem dX4_readToken_209 : decode cX4_readToken 209 = .ok (.aload_n 0, 1) := by decide +kernel
theorem dX4_readToken_210 : decode cX4_readToken 210 = .ok (.getfield 38, 3) := by decide +kernel
theorem dX4_readToken_213 : decode cX4_readToken 213 = .ok (.invokevirtual 59, 3) := by decide +kernel
theorem dX4_readToken_216 : decode cX4_readToken 216 = .ok (.invokestatic 203, 3) := by decide +kernel
theorem dX4_readToken_219 : decode cX4_readToken 219 = .ok (.ifCond .eq 39, 3) := by decide +kernel
theorem dX4_readToken_222 : decode cX4_readToken 222 = .ok (.aload_n 0, 1) := by decide +kernel
theorem dX4_readToken_223 : decode cX4_readToken 223 = .ok (.aload_n 0, 1) := by decide +kernel
theorem dX4_readToken_224 : decode cX4_readToken 224 = .ok (.getfield 131, 3) := by decide +kernel
theorem dX4_readToken_227 : decode cX4_readToken 227 = .ok (.bipush 10, 2) := by decide +kernel
theorem dX4_readToken_229 : decode cX4_readToken 229 = .ok (.imul, 1) := by decide +kernel
theorem dX4_readToken_230 : decode cX4_readToken 230 = .ok (.aload_n 0, 1) := by decide +kernel
theorem dX4_readToken_231 : decode cX4_readToken 231 = .ok (.aload_n 0, 1) := by decide +kernel
theorem dX4_readToken_232 : decode cX4_readToken 232 = .ok (.getfield 38, 3) := by decide +kernel
theorem dX4_readToken_235 : decode cX4_readToken 235 = .ok (.invokevirtual 59, 3) := by decide +kernel
theorem dX4_readToken_238 : decode cX4_readToken 238 = .ok (.iadd, 1) := by decide +kernel
theorem dX4_readToken_239 : decode cX4_readToken 239 = .ok (.bipush 48, 2) := by decide +kernel
theorem dX4_readToken_241 : decode cX4_readToken 241 = .ok (.isub, 1) := by decide +kernel
theorem dX4_readToken_242 : decode cX4_readToken 242 = .ok (.putfield 131, 3) := by decide +kernel
theorem dX4_readToken_245 : decode cX4_readToken 245 = .ok (.aload_n 0, 1) := by decide +kernel
theorem dX4_readToken_246 : decode cX4_readToken 246 = .ok (.dup, 1) := by decide +kernel
theorem dX4_readToken_247 : decode cX4_readToken 247 = .ok (.getfield 38, 3) := by decide +kernel
theorem dX4_readToken_250 : decode cX4_readToken 250 = .ok (.iconst 1, 1) := by decide +kernel
theorem dX4_readToken_251 : decode cX4_readToken 251 = .ok (.iadd, 1) := by decide +kernel
theorem dX4_readToken_252 : decode cX4_readToken 252 = .ok (.putfield 38, 3) := by decide +kernel
theorem dX4_readToken_255 : decode cX4_readToken 255 = .ok (.goto (-58), 3) := by decide +kernel
theorem dX4_readToken_258 : decode cX4_readToken 258 = .ok (.aload_n 0, 1) := by decide +kernel
theorem dX4_readToken_259 : decode cX4_readToken 259 = .ok (.aload_n 0, 1) := by decide +kernel
theorem dX4_readToken_260 : decode cX4_readToken 260 = .ok (.getfield 38, 3) := by decide +kernel
theorem dX4_readToken_263 : decode cX4_readToken 263 = .ok (.aload_n 0, 1) := by decide +kernel
theorem dX4_readToken_264 : decode cX4_readToken 264 = .ok (.getfield 56, 3) := by decide +kernel
theorem dX4_readToken_267 : decode cX4_readToken 267 = .ok (.isub, 1) := by decide +kernel
theorem dX4_readToken_268 : decode cX4_readToken 268 = .ok (.iconst 4, 1) := by decide +kernel
theorem dX4_readToken_269 : decode cX4_readToken 269 = .ok (.if_icmp .gt 7, 3) := by decide +kernel
theorem dX4_readToken_272 : decode cX4_readToken 272 = .ok (.iconst 2, 1) := by decide +kernel
theorem dX4_readToken_273 : decode cX4_readToken 273 = .ok (.goto 4, 3) := by decide +kernel
theorem dX4_readToken_276 : decode cX4_readToken 276 = .ok (.iconst 4, 1) := by decide +kernel
theorem dX4_readToken_277 : decode cX4_readToken 277 = .ok (.putfield 47, 3) := by decide +kernel
theorem dX4_readToken_280 : decode cX4_readToken 280 = .ok (.goto 28, 3) := by decide +kernel
theorem dX4_readToken_283 : decode cX4_readToken 283 = .ok (.aload_n 0, 1) := by decide +kernel
theorem dX4_readToken_284 : decode cX4_readToken 284 = .ok (.dup, 1) := by decide +kernel
theorem dX4_readToken_285 : decode cX4_readToken 285 = .ok (.getfield 38, 3) := by decide +kernel
theorem dX4_readToken_288 : decode cX4_readToken 288 = .ok (.iconst 1, 1) := by decide +kernel
theorem dX4_readToken_289 : decode cX4_readToken 289 = .ok (.iadd, 1) := by decide +kernel
theorem dX4_readToken_290 : decode cX4_readToken 290 = .ok (.putfield 38, 3) := by decide +kernel
theorem dX4_readToken_293 : decode cX4_readToken 293 = .ok (.aload_n 0, 1) := by decide +kernel
theorem dX4_readToken_294 : decode cX4_readToken 294 = .ok (.iload_n 1, 1) := by decide +kernel
theorem dX4_readToken_295 : decode cX4_readToken 295 = .ok (.bipush 59, 2) := by decide +kernel
theorem dX4_readToken_297 : decode cX4_readToken 297 = .ok (.if_icmp .ne 7, 3) := by decide +kernel
theorem dX4_readToken_300 : decode cX4_readToken 300 = .ok (.iconst 3, 1) := by decide +kernel
theorem dX4_readToken_301 : decode cX4_readToken 301 = .ok (.goto 4, 3) := by decide +kernel
theorem dX4_readToken_304 : decode cX4_readToken 304 = .ok (.iconst 4, 1) := by decide +kernel
theorem dX4_readToken_305 : decode cX4_readToken 305 = .ok (.putfield 47, 3) := by decide +kernel
theorem dX4_readToken_308 : decode cX4_readToken 308 = .ok (.return_, 1) := by decide +kernel
theorem dX4_byteAt_0 : decode cX4_byteAt 0 = .ok (.iload_n 1, 1) := by decide +kernel
theorem dX4_byteAt_1 : decode cX4_byteAt 1 = .ok (.ifCond .lt 33, 3) := by decide +kernel
theorem dX4_byteAt_4 : decode cX4_byteAt 4 = .ok (.iload_n 1, 1) := by decide +kernel
theorem dX4_byteAt_5 : decode cX4_byteAt 5 = .ok (.aload_n 0, 1) := by decide +kernel
theorem dX4_byteAt_6 : decode cX4_byteAt 6 = .ok (.getfield 35, 3) := by decide +kernel
theorem dX4_byteAt_9 : decode cX4_byteAt 9 = .ok (.if_icmp .ge 25, 3) := by decide +kernel
theorem dX4_byteAt_12 : decode cX4_byteAt 12 = .ok (.iload_n 1, 1) := by decide +kernel
theorem dX4_byteAt_13 : decode cX4_byteAt 13 = .ok (.aload_n 0, 1) := by decide +kernel
theorem dX4_byteAt_14 : decode cX4_byteAt 14 = .ok (.getfield 18, 3) := by decide +kernel
theorem dX4_byteAt_17 : decode cX4_byteAt 17 = .ok (.arraylength, 1) := by decide +kernel
theorem dX4_byteAt_18 : decode cX4_byteAt 18 = .ok (.if_icmp .ge 16, 3) := by decide +kernel
theorem dX4_byteAt_21 : decode cX4_byteAt 21 = .ok (.aload_n 0, 1) := by decide +kernel
theorem dX4_byteAt_22 : decode cX4_byteAt 22 = .ok (.getfield 18, 3) := by decide +kernel
theorem dX4_byteAt_25 : decode cX4_byteAt 25 = .ok (.iload_n 1, 1) := by decide +kernel
theorem dX4_byteAt_26 : decode cX4_byteAt 26 = .ok (.baload, 1) := by decide +kernel
theorem dX4_byteAt_27 : decode cX4_byteAt 27 = .ok (.sipush 255, 3) := by decide +kernel
theorem dX4_byteAt_30 : decode cX4_byteAt 30 = .ok (.iand, 1) := by decide +kernel
theorem dX4_byteAt_31 : decode cX4_byteAt 31 = .ok (.goto 4, 3) := by decide +kernel
theorem dX4_byteAt_34 : decode cX4_byteAt 34 = .ok (.iconst (-1), 1) := by decide +kernel
theorem dX4_byteAt_35 : decode cX4_byteAt 35 = .ok (.ireturn, 1) := by decide +kernel
theorem dX4_isLetter_0 : decode cX4_isLetter 0 = .ok (.iload_n 0, 1) := by decide +kernel
theorem dX4_isLetter_1 : decode cX4_isLetter 1 = .ok (.bipush 97, 2) := by decide +kernel
theorem dX4_isLetter_3 : decode cX4_isLetter 3 = .ok (.if_icmp .lt 13, 3) := by decide +kernel
theorem dX4_isLetter_6 : decode cX4_isLetter 6 = .ok (.iload_n 0, 1) := by decide +kernel
theorem dX4_isLetter_7 : decode cX4_isLetter 7 = .ok (.bipush 122, 2) := by decide +kernel
theorem dX4_isLetter_9 : decode cX4_isLetter 9 = .ok (.if_icmp .gt 7, 3) := by decide +kernel
theorem dX4_isLetter_12 : decode cX4_isLetter 12 = .ok (.iconst 1, 1) := by decide +kernel
theorem dX4_isLetter_13 : decode cX4_isLetter 13 = .ok (.goto 4, 3) := by decide +kernel
theorem dX4_isLetter_16 : decode cX4_isLetter 16 = .ok (.iconst 0, 1) := by decide +kernel
theorem dX4_isLetter_17 : decode cX4_isLetter 17 = .ok (.ireturn, 1) := by decide +kernel
theorem dX4_isDigit_0 : decode cX4_isDigit 0 = .ok (.iload_n 0, 1) := by decide +kernel
theorem dX4_isDigit_1 : decode cX4_isDigit 1 = .ok (.bipush 48, 2) := by decide +kernel
theorem dX4_isDigit_3 : decode cX4_isDigit 3 = .ok (.if_icmp .lt 13, 3) := by decide +kernel
theorem dX4_isDigit_6 : decode cX4_isDigit 6 = .ok (.iload_n 0, 1) := by decide +kernel
theorem dX4_isDigit_7 : decode cX4_isDigit 7 = .ok (.bipush 57, 2) := by decide +kernel
theorem dX4_isDigit_9 : decode cX4_isDigit 9 = .ok (.if_icmp .gt 7, 3) := by decide +kernel
theorem dX4_isDigit_12 : decode cX4_isDigit 12 = .ok (.iconst 1, 1) := by decide +kernel
theorem dX4_isDigit_13 : decode cX4_isDigit 13 = .ok (.goto 4, 3) := by decide +kernel
theorem dX4_isDigit_16 : decode cX4_isDigit 16 = .ok (.iconst 0, 1) := by decide +kernel
theorem dX4_isDigit_17 : decode cX4_isDigit 17 = .ok (.ireturn, 1) := by decide +kernel
theorem dX4_packed_0 : decode cX4_packed 0 = .ok (.lconst 0, 1) := by decide +kernel
theorem dX4_packed_1 : decode cX4_packed 1 = .ok (.lstore_n 1, 1) := by decide +kernel
theorem dX4_packed_2 : decode cX4_packed 2 = .ok (.iconst 0, 1) := by decide +kernel
theorem dX4_packed_3 : decode cX4_packed 3 = .ok (.istore_n 3, 1) := by decide +kernel
theorem dX4_packed_4 : decode cX4_packed 4 = .ok (.iload_n 3, 1) := by decide +kernel
theorem dX4_packed_5 : decode cX4_packed 5 = .ok (.aload_n 0, 1) := by decide +kernel
theorem dX4_packed_6 : decode cX4_packed 6 = .ok (.invokevirtual 206, 3) := by decide +kernel
theorem dX4_packed_9 : decode cX4_packed 9 = .ok (.if_icmp .ge 21, 3) := by decide +kernel
theorem dX4_packed_12 : decode cX4_packed 12 = .ok (.lload_n 1, 1) := by decide +kernel
theorem dX4_packed_13 : decode cX4_packed 13 = .ok (.bipush 8, 2) := by decide +kernel
theorem dX4_packed_15 : decode cX4_packed 15 = .ok (.lshl, 1) := by decide +kernel
theorem dX4_packed_16 : decode cX4_packed 16 = .ok (.aload_n 0, 1) := by decide +kernel
theorem dX4_packed_17 : decode cX4_packed 17 = .ok (.iload_n 3, 1) := by decide +kernel
theorem dX4_packed_18 : decode cX4_packed 18 = .ok (.invokevirtual 210, 3) := by decide +kernel
theorem dX4_packed_21 : decode cX4_packed 21 = .ok (.i2l, 1) := by decide +kernel
theorem dX4_packed_22 : decode cX4_packed 22 = .ok (.lor, 1) := by decide +kernel
theorem dX4_packed_23 : decode cX4_packed 23 = .ok (.lstore_n 1, 1) := by decide +kernel
theorem dX4_packed_24 : decode cX4_packed 24 = .ok (.iinc 3 1, 3) := by decide +kernel
theorem dX4_packed_27 : decode cX4_packed 27 = .ok (.goto (-23), 3) := by decide +kernel
theorem dX4_packed_30 : decode cX4_packed 30 = .ok (.lload_n 1, 1) := by decide +kernel
theorem dX4_packed_31 : decode cX4_packed 31 = .ok (.lreturn, 1) := by decide +kernel
theorem dX5_init_0 : decode cX5_init 0 = .ok (.aload_n 0, 1) := by decide +kernel
theorem dX5_init_1 : decode cX5_init 1 = .ok (.invokespecial 3, 3) := by decide +kernel
theorem dX5_init_4 : decode cX5_init 4 = .ok (.aload_n 0, 1) := by decide +kernel
theorem dX5_init_5 : decode cX5_init 5 = .ok (.bipush 8, 2) := by decide +kernel
theorem dX5_init_7 : decode cX5_init 7 = .ok (.newarray .int, 2) := by decide +kernel
theorem dX5_init_9 : decode cX5_init 9 = .ok (.putfield 9, 3) := by decide +kernel
theorem dX5_init_12 : decode cX5_init 12 = .ok (.aload_n 0, 1) := by decide +kernel
theorem dX5_init_13 : decode cX5_init 13 = .ok (.iconst 4, 1) := by decide +kernel
theorem dX5_init_14 : decode cX5_init 14 = .ok (.anewarray 15, 3) := by decide +kernel
theorem dX5_init_17 : decode cX5_init 17 = .ok (.putfield 17, 3) := by decide +kernel
theorem dX5_init_20 : decode cX5_init 20 = .ok (.aload_n 0, 1) := by decide +kernel
theorem dX5_init_21 : decode cX5_init 21 = .ok (.iconst (-1), 1) := by decide +kernel
theorem dX5_init_22 : decode cX5_init 22 = .ok (.putfield 21, 3) := by decide +kernel
theorem dX5_init_25 : decode cX5_init 25 = .ok (.aload_n 0, 1) := by decide +kernel
theorem dX5_init_26 : decode cX5_init 26 = .ok (.aload_n 1, 1) := by decide +kernel
theorem dX5_init_27 : decode cX5_init 27 = .ok (.putfield 25, 3) := by decide +kernel
theorem dX5_init_30 : decode cX5_init 30 = .ok (.iconst 0, 1) := by decide +kernel
theorem dX5_init_31 : decode cX5_init 31 = .ok (.istore_n 2, 1) := by decide +kernel
theorem dX5_init_32 : decode cX5_init 32 = .ok (.iload_n 2, 1) := by decide +kernel
theorem dX5_init_33 : decode cX5_init 33 = .ok (.aload_n 0, 1) := by decide +kernel
theorem dX5_init_34 : decode cX5_init 34 = .ok (.getfield 17, 3) := by decide +kernel
theorem dX5_init_37 : decode cX5_init 37 = .ok (.arraylength, 1) := by decide +kernel
theorem dX5_init_38 : decode cX5_init 38 = .ok (.if_icmp .ge 38, 3) := by decide +kernel
theorem dX5_init_41 : decode cX5_init 41 = .ok (.iload_n 2, 1) := by decide +kernel
theorem dX5_init_42 : decode cX5_init 42 = .ok (.aload_n 1, 1) := by decide +kernel
theorem dX5_init_43 : decode cX5_init 43 = .ok (.getfield 29, 3) := by decide +kernel
theorem dX5_init_46 : decode cX5_init 46 = .ok (.arraylength, 1) := by decide +kernel
theorem dX5_init_47 : decode cX5_init 47 = .ok (.if_icmp .ge 29, 3) := by decide +kernel
theorem dX5_init_50 : decode cX5_init 50 = .ok (.aload_n 0, 1) := by decide +kernel
theorem dX5_init_51 : decode cX5_init 51 = .ok (.getfield 17, 3) := by decide +kernel
theorem dX5_init_54 : decode cX5_init 54 = .ok (.iload_n 2, 1) := by decide +kernel
theorem dX5_init_55 : decode cX5_init 55 = .ok (.new 15, 3) := by decide +kernel
theorem dX5_init_58 : decode cX5_init 58 = .ok (.dup, 1) := by decide +kernel
theorem dX5_init_59 : decode cX5_init 59 = .ok (.aload_n 1, 1) := by decide +kernel
theorem dX5_init_60 : decode cX5_init 60 = .ok (.aload_n 1, 1) := by decide +kernel
theorem dX5_init_61 : decode cX5_init 61 = .ok (.getfield 29, 3) := by decide +kernel
theorem dX5_init_64 : decode cX5_init 64 = .ok (.iload_n 2, 1) := by decide +kernel
theorem dX5_init_65 : decode cX5_init 65 = .ok (.aaload, 1) := by decide +kernel
theorem dX5_init_66 : decode cX5_init 66 = .ok (.invokespecial 35, 3) := by decide +kernel
theorem dX5_init_69 : decode cX5_init 69 = .ok (.aastore, 1) := by decide +kernel
theorem dX5_init_70 : decode cX5_init 70 = .ok (.iinc 2 1, 3) := by decide +kernel
theorem dX5_init_73 : decode cX5_init 73 = .ok (.goto (-41), 3) := by decide +kernel
theorem dX5_init_76 : decode cX5_init 76 = .ok (.return_, 1) := by decide +kernel
theorem dX5_begin_0 : decode cX5_begin 0 = .ok (.aload_n 0, 1) := by decide +kernel
theorem dX5_begin_1 : decode cX5_begin 1 = .ok (.getfield 25, 3) := by decide +kernel
theorem dX5_begin_4 : decode cX5_begin 4 = .ok (.getfield 38, 3) := by decide +kernel
theorem dX5_begin_7 : decode cX5_begin 7 = .ok (.aload_n 0, 1) := by decide +kernel
theorem dX5_begin_8 : decode cX5_begin 8 = .ok (.getfield 9, 3) := by decide +kernel
theorem dX5_begin_11 : decode cX5_begin 11 = .ok (.invokestatic 41, 3) := by decide +kernel
theorem dX5_begin_14 : decode cX5_begin 14 = .ok (.iconst 0, 1) := by decide +kernel
theorem dX5_begin_15 : decode cX5_begin 15 = .ok (.istore_n 1, 1) := by decide +kernel
theorem dX5_begin_16 : decode cX5_begin 16 = .ok (.iload_n 1, 1) := by decide +kernel
theorem dX5_begin_17 : decode cX5_begin 17 = .ok (.aload_n 0, 1) := by decide +kernel
theorem dX5_begin_18 : decode cX5_begin 18 = .ok (.getfield 17, 3) := by decide +kernel
theorem dX5_begin_21 : decode cX5_begin 21 = .ok (.arraylength, 1) := by decide +kernel
theorem dX5_begin_22 : decode cX5_begin 22 = .ok (.if_icmp .ge 34, 3) := by decide +kernel
theorem dX5_begin_25 : decode cX5_begin 25 = .ok (.aload_n 0, 1) := by decide +kernel
theorem dX5_begin_26 : decode cX5_begin 26 = .ok (.getfield 17, 3) := by decide +kernel
theorem dX5_begin_29 : decode cX5_begin 29 = .ok (.iload_n 1, 1) := by decide +kernel
theorem dX5_begin_30 : decode cX5_begin 30 = .ok (.aaload, 1) := by decide +kernel
theorem dX5_begin_31 : decode cX5_begin 31 = .ok (.iload_n 1, 1) := by decide +kernel
theorem dX5_begin_32 : decode cX5_begin 32 = .ok (.aload_n 0, 1) := by decide +kernel
theorem dX5_begin_33 : decode cX5_begin 33 = .ok (.getfield 25, 3) := by decide +kernel
theorem dX5_begin_36 : decode cX5_begin 36 = .ok (.getfield 45, 3) := by decide +kernel
theorem dX5_begin_39 : decode cX5_begin 39 = .ok (.if_icmp .ge 7, 3) := by decide +kernel
theorem dX5_begin_42 : decode cX5_begin 42 = .ok (.iconst 1, 1) := by decide +kernel
theorem dX5_begin_43 : decode cX5_begin 43 = .ok (.goto 4, 3) := by decide +kernel
theorem dX5_begin_46 : decode cX5_begin 46 = .ok (.iconst 0, 1) := by decide +kernel
theorem dX5_begin_47 : decode cX5_begin 47 = .ok (.invokevirtual 47, 3) := by decide +kernel
theorem dX5_begin_50 : decode cX5_begin 50 = .ok (.iinc 1 1, 3) := by decide +kernel
theorem dX5_begin_53 : decode cX5_begin 53 = .ok (.goto (-37), 3) := by decide +kernel
theorem dX5_begin_56 : decode cX5_begin 56 = .ok (.aload_n 0, 1) := by decide +kernel
theorem dX5_begin_57 : decode cX5_begin 57 = .ok (.iconst 0, 1) := by decide +kernel
theorem dX5_begin_58 : decode cX5_begin 58 = .ok (.putfield 51, 3) := by decide +kernel
theorem dX5_begin_61 : decode cX5_begin 61 = .ok (.aload_n 0, 1) := by decide +kernel
theorem dX5_begin_62 : decode cX5_begin 62 = .ok (.iconst 0, 1) := by decide +kernel
theorem dX5_begin_63 : decode cX5_begin 63 = .ok (.putfield 54, 3) := by decide +kernel
theorem dX5_begin_66 : decode cX5_begin 66 = .ok (.aload_n 0, 1) := by decide +kernel
theorem dX5_begin_67 : decode cX5_begin 67 = .ok (.iconst 0, 1) := by decide +kernel
theorem dX5_begin_68 : decode cX5_begin 68 = .ok (.putfield 57, 3) := by decide +kernel
theorem dX5_begin_71 : decode cX5_begin 71 = .ok (.aload_n 0, 1) := by decide +kernel
theorem dX5_begin_72 : decode cX5_begin 72 = .ok (.iconst (-1), 1) := by decide +kernel
theorem dX5_begin_73 : decode cX5_begin 73 = .ok (.putfield 21, 3) := by decide +kernel
theorem dX5_begin_76 : decode cX5_begin 76 = .ok (.return_, 1) := by decide +kernel
theorem dX5_copyFrom_0 : decode cX5_copyFrom 0 = .ok (.aload_n 1, 1) := by decide +kernel
theorem dX5_copyFrom_1 : decode cX5_copyFrom 1 = .ok (.getfield 9, 3) := by decide +kernel
theorem dX5_copyFrom_4 : decode cX5_copyFrom 4 = .ok (.aload_n 0, 1) := by decide +kernel
theorem dX5_copyFrom_5 : decode cX5_copyFrom 5 = .ok (.getfield 9, 3) := by decide +kernel
theorem dX5_copyFrom_8 : decode cX5_copyFrom 8 = .ok (.invokestatic 41, 3) := by decide +kernel
theorem dX5_copyFrom_11 : decode cX5_copyFrom 11 = .ok (.iconst 0, 1) := by decide +kernel
theorem dX5_copyFrom_12 : decode cX5_copyFrom 12 = .ok (.istore_n 2, 1) := by decide +kernel
theorem dX5_copyFrom_13 : decode cX5_copyFrom 13 = .ok (.iload_n 2, 1) := by decide +kernel
theorem dX5_copyFrom_14 : decode cX5_copyFrom 14 = .ok (.aload_n 0, 1) := by decide +kernel
theorem dX5_copyFrom_15 : decode cX5_copyFrom 15 = .ok (.getfield 17, 3) := by decide +kernel
theorem dX5_copyFrom_18 : decode cX5_copyFrom 18 = .ok (.arraylength, 1) := by decide +kernel
theorem dX5_copyFrom_19 : decode cX5_copyFrom 19 = .ok (.if_icmp .ge 33, 3) := by decide +kernel
theorem dX5_copyFrom_22 : decode cX5_copyFrom 22 = .ok (.iload_n 2, 1) := by decide +kernel
theorem dX5_copyFrom_23 : decode cX5_copyFrom 23 = .ok (.aload_n 1, 1) := by decide +kernel
theorem dX5_copyFrom_24 : decode cX5_copyFrom 24 = .ok (.getfield 17, 3) := by decide +kernel
theorem dX5_copyFrom_27 : decode cX5_copyFrom 27 = .ok (.arraylength, 1) := by decide +kernel
theorem dX5_copyFrom_28 : decode cX5_copyFrom 28 = .ok (.if_icmp .ge 24, 3) := by decide +kernel
theorem dX5_copyFrom_31 : decode cX5_copyFrom 31 = .ok (.aload_n 0, 1) := by decide +kernel
theorem dX5_copyFrom_32 : decode cX5_copyFrom 32 = .ok (.getfield 17, 3) := by decide +kernel
theorem dX5_copyFrom_35 : decode cX5_copyFrom 35 = .ok (.iload_n 2, 1) := by decide +kernel
theorem dX5_copyFrom_36 : decode cX5_copyFrom 36 = .ok (.aaload, 1) := by decide +kernel
theorem dX5_copyFrom_37 : decode cX5_copyFrom 37 = .ok (.aload_n 1, 1) := by decide +kernel
theorem dX5_copyFrom_38 : decode cX5_copyFrom 38 = .ok (.getfield 17, 3) := by decide +kernel
theorem dX5_copyFrom_41 : decode cX5_copyFrom 41 = .ok (.iload_n 2, 1) := by decide +kernel
theorem dX5_copyFrom_42 : decode cX5_copyFrom 42 = .ok (.aaload, 1) := by decide +kernel
theorem dX5_copyFrom_43 : decode cX5_copyFrom 43 = .ok (.invokevirtual 60, 3) := by decide +kernel
theorem dX5_copyFrom_46 : decode cX5_copyFrom 46 = .ok (.iinc 2 1, 3) := by decide +kernel
theorem dX5_copyFrom_49 : decode cX5_copyFrom 49 = .ok (.goto (-36), 3) := by decide +kernel
theorem dX5_copyFrom_52 : decode cX5_copyFrom 52 = .ok (.aload_n 0, 1) := by decide +kernel
theorem dX5_copyFrom_53 : decode cX5_copyFrom 53 = .ok (.aload_n 1, 1) := by decide +kernel
theorem dX5_copyFrom_54 : decode cX5_copyFrom 54 = .ok (.getfield 51, 3) := by decide +kernel
theorem dX5_copyFrom_57 : decode cX5_copyFrom 57 = .ok (.putfield 51, 3) := by decide +kernel
theorem dX5_copyFrom_60 : decode cX5_copyFrom 60 = .ok (.aload_n 0, 1) := by decide +kernel
theorem dX5_copyFrom_61 : decode cX5_copyFrom 61 = .ok (.aload_n 1, 1) := by decide +kernel
theorem dX5_copyFrom_62 : decode cX5_copyFrom 62 = .ok (.getfield 54, 3) := by decide +kernel
theorem dX5_copyFrom_65 : decode cX5_copyFrom 65 = .ok (.putfield 54, 3) := by decide +kernel
theorem dX5_copyFrom_68 : decode cX5_copyFrom 68 = .ok (.aload_n 0, 1) := by decide +kernel
theorem dX5_copyFrom_69 : decode cX5_copyFrom 69 = .ok (.aload_n 1, 1) := by decide +kernel
theorem dX5_copyFrom_70 : decode cX5_copyFrom 70 = .ok (.getfield 57, 3) := by decide +kernel
theorem dX5_copyFrom_73 : decode cX5_copyFrom 73 = .ok (.putfield 57, 3) := by decide +kernel
theorem dX5_copyFrom_76 : decode cX5_copyFrom 76 = .ok (.aload_n 0, 1) := by decide +kernel
theorem dX5_copyFrom_77 : decode cX5_copyFrom 77 = .ok (.iconst (-1), 1) := by decide +kernel
theorem dX5_copyFrom_78 : decode cX5_copyFrom 78 = .ok (.putfield 21, 3) := by decide +kernel
theorem dX5_copyFrom_81 : decode cX5_copyFrom 81 = .ok (.return_, 1) := by decide +kernel
theorem dX5_seat_0 : decode cX5_seat 0 = .ok (.aload_n 0, 1) := by decide +kernel
theorem dX5_seat_1 : decode cX5_seat 1 = .ok (.getfield 17, 3) := by decide +kernel
theorem dX5_seat_4 : decode cX5_seat 4 = .ok (.iload_n 1, 1) := by decide +kernel
theorem dX5_seat_5 : decode cX5_seat 5 = .ok (.ifCond .le 16, 3) := by decide +kernel
theorem dX5_seat_8 : decode cX5_seat 8 = .ok (.iload_n 1, 1) := by decide +kernel
theorem dX5_seat_9 : decode cX5_seat 9 = .ok (.aload_n 0, 1) := by decide +kernel
theorem dX5_seat_10 : decode cX5_seat 10 = .ok (.getfield 17, 3) := by decide +kernel
theorem dX5_seat_13 : decode cX5_seat 13 = .ok (.arraylength, 1) := by decide +kernel
theorem dX5_seat_14 : decode cX5_seat 14 = .ok (.if_icmp .ge 7, 3) := by decide +kernel
theorem dX5_seat_17 : decode cX5_seat 17 = .ok (.iload_n 1, 1) := by decide +kernel
theorem dX5_seat_18 : decode cX5_seat 18 = .ok (.goto 4, 3) := by decide +kernel
theorem dX5_seat_21 : decode cX5_seat 21 = .ok (.iconst 0, 1) := by decide +kernel
theorem dX5_seat_22 : decode cX5_seat 22 = .ok (.aaload, 1) := by decide +kernel
theorem dX5_seat_23 : decode cX5_seat 23 = .ok (.areturn, 1) := by decide +kernel
theorem dX5_rateAt_0 : decode cX5_rateAt 0 = .ok (.aload_n 0, 1) := by decide +kernel
theorem dX5_rateAt_1 : decode cX5_rateAt 1 = .ok (.getfield 21, 3) := by decide +kernel
theorem dX5_rateAt_4 : decode cX5_rateAt 4 = .ok (.iconst (-1), 1) := by decide +kernel
theorem dX5_rateAt_5 : decode cX5_rateAt 5 = .ok (.if_icmp .eq 8, 3) := by decide +kernel
theorem dX5_rateAt_8 : decode cX5_rateAt 8 = .ok (.aload_n 0, 1) := by decide +kernel
theorem dX5_rateAt_9 : decode cX5_rateAt 9 = .ok (.getfield 21, 3) := by decide +kernel
theorem dX5_rateAt_12 : decode cX5_rateAt 12 = .ok (.ireturn, 1) := by decide +kernel
theorem dX5_rateAt_13 : decode cX5_rateAt 13 = .ok (.aload_n 0, 1) := by decide +kernel
theorem dX5_rateAt_14 : decode cX5_rateAt 14 = .ok (.getfield 25, 3) := by decide +kernel
theorem dX5_rateAt_17 : decode cX5_rateAt 17 = .ok (.getfield 64, 3) := by decide +kernel
theorem dX5_rateAt_20 : decode cX5_rateAt 20 = .ok (.ifCond .le 15, 3) := by decide +kernel
theorem dX5_rateAt_23 : decode cX5_rateAt 23 = .ok (.iload_n 1, 1) := by decide +kernel
theorem dX5_rateAt_24 : decode cX5_rateAt 24 = .ok (.aload_n 0, 1) := by decide +kernel
theorem dX5_rateAt_25 : decode cX5_rateAt 25 = .ok (.getfield 25, 3) := by decide +kernel
theorem dX5_rateAt_28 : decode cX5_rateAt 28 = .ok (.getfield 64, 3) := by decide +kernel
theorem dX5_rateAt_31 : decode cX5_rateAt 31 = .ok (.irem, 1) := by decide +kernel
theorem dX5_rateAt_32 : decode cX5_rateAt 32 = .ok (.goto 4, 3) := by decide +kernel
theorem dX5_rateAt_35 : decode cX5_rateAt 35 = .ok (.iconst 0, 1) := by decide +kernel
theorem dX5_rateAt_36 : decode cX5_rateAt 36 = .ok (.istore_n 2, 1) := by decide +kernel
theorem dX5_rateAt_37 : decode cX5_rateAt 37 = .ok (.iconst 0, 1) := by decide +kernel
theorem dX5_rateAt_38 : decode cX5_rateAt 38 = .ok (.istore_n 3, 1) := by decide +kernel
theorem dX5_rateAt_39 : decode cX5_rateAt 39 = .ok (.iload_n 3, 1) := by decide +kernel
theorem dX5_rateAt_40 : decode cX5_rateAt 40 = .ok (.aload_n 0, 1) := by decide +kernel
theorem dX5_rateAt_41 : decode cX5_rateAt 41 = .ok (.getfield 25, 3) := by decide +kernel
theorem dX5_rateAt_44 : decode cX5_rateAt 44 = .ok (.getfield 67, 3) := by decide +kernel
theorem dX5_rateAt_47 : decode cX5_rateAt 47 = .ok (.if_icmp .ge 50, 3) := by decide +kernel
theorem dX5_rateAt_50 : decode cX5_rateAt 50 = .ok (.iload_n 3, 1) := by decide +kernel
theorem dX5_rateAt_51 : decode cX5_rateAt 51 = .ok (.aload_n 0, 1) := by decide +kernel
theorem dX5_rateAt_52 : decode cX5_rateAt 52 = .ok (.getfield 9, 3) := by decide +kernel
theorem dX5_rateAt_55 : decode cX5_rateAt 55 = .ok (.arraylength, 1) := by decide +kernel
theorem dX5_rateAt_56 : decode cX5_rateAt 56 = .ok (.if_icmp .ge 41, 3) := by decide +kernel
theorem dX5_rateAt_59 : decode cX5_rateAt 59 = .ok (.iload_n 2, 1) := by decide +kernel
theorem dX5_rateAt_60 : decode cX5_rateAt 60 = .ok (.aload_n 0, 1) := by decide +kernel
theorem dX5_rateAt_61 : decode cX5_rateAt 61 = .ok (.getfield 25, 3) := by decide +kernel
theorem dX5_rateAt_64 : decode cX5_rateAt 64 = .ok (.getfield 70, 3) := by decide +kernel
theorem dX5_rateAt_67 : decode cX5_rateAt 67 = .ok (.iload_n 3, 1) := by decide +kernel
theorem dX5_rateAt_68 : decode cX5_rateAt 68 = .ok (.iaload, 1) := by decide +kernel
theorem dX5_rateAt_69 : decode cX5_rateAt 69 = .ok (.if_icmp .ge 10, 3) := by decide +kernel
theorem dX5_rateAt_72 : decode cX5_rateAt 72 = .ok (.aload_n 0, 1) := by decide +kernel
theorem dX5_rateAt_73 : decode cX5_rateAt 73 = .ok (.getfield 9, 3) := by decide +kernel
theorem dX5_rateAt_76 : decode cX5_rateAt 76 = .ok (.iload_n 3, 1) := by decide +kernel
theorem dX5_rateAt_77 : decode cX5_rateAt 77 = .ok (.iaload, 1) := by decide +kernel
theorem dX5_rateAt_78 : decode cX5_rateAt 78 = .ok (.ireturn, 1) := by decide +kernel
theorem dX5_rateAt_79 : decode cX5_rateAt 79 = .ok (.iload_n 2, 1) := by decide +kernel
theorem dX5_rateAt_80 : decode cX5_rateAt 80 = .ok (.aload_n 0, 1) := by decide +kernel
theorem dX5_rateAt_81 : decode cX5_rateAt 81 = .ok (.getfield 25, 3) := by decide +kernel
theorem dX5_rateAt_84 : decode cX5_rateAt 84 = .ok (.getfield 70, 3) := by decide +kernel
theorem dX5_rateAt_87 : decode cX5_rateAt 87 = .ok (.iload_n 3, 1) := by decide +kernel
theorem dX5_rateAt_88 : decode cX5_rateAt 88 = .ok (.iaload, 1) := by decide +kernel
theorem dX5_rateAt_89 : decode cX5_rateAt 89 = .ok (.isub, 1) := by decide +kernel
theorem dX5_rateAt_90 : decode cX5_rateAt 90 = .ok (.istore_n 2, 1) := by decide +kernel
theorem dX5_rateAt_91 : decode cX5_rateAt 91 = .ok (.iinc 3 1, 3) := by decide +kernel
theorem dX5_rateAt_94 : decode cX5_rateAt 94 = .ok (.goto (-55), 3) := by decide +kernel
