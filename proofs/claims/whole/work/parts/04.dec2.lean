theorem dX5_init_64 : decode cX5_init 64 = .ok (.iload_n 2, 1) := by decide +kernel
theorem dX5_init_65 : decode cX5_init 65 = .ok (.aaload, 1) := by decide +kernel
theorem dX5_init_66 : decode cX5_init 66 = .ok (.invokespecial 35, 3) := by decide +kernel
theorem dX5_init_69 : decode cX5_init 69 = .ok (.aastore, 1) := by decide +kernel
theorem dX5_init_70 : decode cX5_init 70 = .ok (.iinc 2 1, 3) := by decide +kernel
theorem dX5_init_73 : decode cX5_init 73 = .ok (.goto (-41), 3) := by decide +kernel
theorem dX5_init_76 : decode cX5_init 76 = .ok (.return_, 1) := by decide +kernel
theorem dX5_begin_0 : decode cX5_begin 0 = .ok (.aload_n 0, 1) := by decide +kernel
theorem dX5_begin_1 : decode cX5_begin 1 = .ok (.getfield 25, 3) := by decide +kernel
theorem dX5_begin_4 : decode cX5_begin 4 = .ok (.getfield 38, 3) := by decide +kernel
theorem dX5_begin_7 : decode cX5_begin 7 = .ok (.aload_n 0, 1) := by decide +kernel
theorem dX5_begin_8 : decode cX5_begin 8 = .ok (.getfield 9, 3) := by decide +kernel
theorem dX5_begin_11 : decode cX5_begin 11 = .ok (.invokestatic 41, 3) := by decide +kernel
theorem dX5_begin_14 : decode cX5_begin 14 = .ok (.iconst 0, 1) := by decide +kernel
theorem dX5_begin_15 : decode cX5_begin 15 = .ok (.istore_n 1, 1) := by decide +kernel
theorem dX5_begin_16 : decode cX5_begin 16 = .ok (.iload_n 1, 1) := by decide +kernel
theorem dX5_begin_17 : decode cX5_begin 17 = .ok (.aload_n 0, 1) := by decide +kernel
theorem dX5_begin_18 : decode cX5_begin 18 = .ok (.getfield 17, 3) := by decide +kernel
theorem dX5_begin_21 : decode cX5_begin 21 = .ok (.arraylength, 1) := by decide +kernel
theorem dX5_begin_22 : decode cX5_begin 22 = .ok (.if_icmp .ge 34, 3) := by decide +kernel
theorem dX5_begin_25 : decode cX5_begin 25 = .ok (.aload_n 0, 1) := by decide +kernel
theorem dX5_begin_26 : decode cX5_begin 26 = .ok (.getfield 17, 3) := by decide +kernel
theorem dX5_begin_29 : decode cX5_begin 29 = .ok (.iload_n 1, 1) := by decide +kernel
theorem dX5_begin_30 : decode cX5_begin 30 = .ok (.aaload, 1) := by decide +kernel
theorem dX5_begin_31 : decode cX5_begin 31 = .ok (.iload_n 1, 1) := by decide +kernel
theorem dX5_begin_32 : decode cX5_begin 32 = .ok (.aload_n 0, 1) := by decide +kernel
theorem dX5_begin_33 : decode cX5_begin 33 = .ok (.getfield 25, 3) := by decide +kernel
theorem dX5_begin_36 : decode cX5_begin 36 = .ok (.getfield 45, 3) := by decide +kernel
theorem dX5_begin_39 : decode cX5_begin 39 = .ok (.if_icmp .ge 7, 3) := by decide +kernel
theorem dX5_begin_42 : decode cX5_begin 42 = .ok (.iconst 1, 1) := by decide +kernel
theorem dX5_begin_43 : decode cX5_begin 43 = .ok (.goto 4, 3) := by decide +kernel
theorem dX5_begin_46 : decode cX5_begin 46 = .ok (.iconst 0, 1) := by decide +kernel
theorem dX5_begin_47 : decode cX5_begin 47 = .ok (.invokevirtual 47, 3) := by decide +kernel
theorem dX5_begin_50 : decode cX5_begin 50 = .ok (.iinc 1 1, 3) := by decide +kernel
theorem dX5_begin_53 : decode cX5_begin 53 = .ok (.goto (-37), 3) := by decide +kernel
theorem dX5_begin_56 : decode cX5_begin 56 = .ok (.aload_n 0, 1) := by decide +kernel
theorem dX5_begin_57 : decode cX5_begin 57 = .ok (.iconst 0, 1) := by decide +kernel
theorem dX5_begin_58 : decode cX5_begin 58 = .ok (.putfield 51, 3) := by decide +kernel
theorem dX5_begin_61 : decode cX5_begin 61 = .ok (.aload_n 0, 1) := by decide +kernel
theorem dX5_begin_62 : decode cX5_begin 62 = .ok (.iconst 0, 1) := by decide +kernel
theorem dX5_begin_63 : decode cX5_begin 63 = .ok (.putfield 54, 3) := by decide +kernel
theorem dX5_begin_66 : decode cX5_begin 66 = .ok (.aload_n 0, 1) := by decide +kernel
theorem dX5_begin_67 : decode cX5_begin 67 = .ok (.iconst 0, 1) := by decide +kernel
theorem dX5_begin_68 : decode cX5_begin 68 = .ok (.putfield 57, 3) := by decide +kernel
theorem dX5_begin_71 : decode cX5_begin 71 = .ok (.aload_n 0, 1) := by decide +kernel
theorem dX5_begin_72 : decode cX5_begin 72 = .ok (.iconst (-1), 1) := by decide +kernel
theorem dX5_begin_73 : decode cX5_begin 73 = .ok (.putfield 21, 3) := by decide +kernel
theorem dX5_begin_76 : decode cX5_begin 76 = .ok (.return_, 1) := by decide +kernel
theorem dX5_copyFrom_0 : decode cX5_copyFrom 0 = .ok (.aload_n 1, 1) := by decide +kernel
theorem dX5_copyFrom_1 : decode cX5_copyFrom 1 = .ok (.getfield 9, 3) := by decide +kernel
theorem dX5_copyFrom_4 : decode cX5_copyFrom 4 = .ok (.aload_n 0, 1) := by decide +kernel
theorem dX5_copyFrom_5 : decode cX5_copyFrom 5 = .ok (.getfield 9, 3) := by decide +kernel
theorem dX5_copyFrom_8 : decode cX5_copyFrom 8 = .ok (.invokestatic 41, 3) := by decide +kernel
theorem dX5_copyFrom_11 : decode cX5_copyFrom 11 = .ok (.iconst 0, 1) := by decide +kernel
theorem dX5_copyFrom_12 : decode cX5_copyFrom 12 = .ok (.istore_n 2, 1) := by decide +kernel
theorem dX5_copyFrom_13 : decode cX5_copyFrom 13 = .ok (.iload_n 2, 1) := by decide +kernel
theorem dX5_copyFrom_14 : decode cX5_copyFrom 14 = .ok (.aload_n 0, 1) := by decide +kernel
theorem dX5_copyFrom_15 : decode cX5_copyFrom 15 = .ok (.getfield 17, 3) := by decide +kernel
theorem dX5_copyFrom_18 : decode cX5_copyFrom 18 = .ok (.arraylength, 1) := by decide +kernel
theorem dX5_copyFrom_19 : decode cX5_copyFrom 19 = .ok (.if_icmp .ge 33, 3) := by decide +kernel
theorem dX5_copyFrom_22 : decode cX5_copyFrom 22 = .ok (.iload_n 2, 1) := by decide +kernel
theorem dX5_copyFrom_23 : decode cX5_copyFrom 23 = .ok (.aload_n 1, 1) := by decide +kernel
theorem dX5_copyFrom_24 : decode cX5_copyFrom 24 = .ok (.getfield 17, 3) := by decide +kernel
theorem dX5_copyFrom_27 : decode cX5_copyFrom 27 = .ok (.arraylength, 1) := by decide +kernel
theorem dX5_copyFrom_28 : decode cX5_copyFrom 28 = .ok (.if_icmp .ge 24, 3) := by decide +kernel
theorem dX5_copyFrom_31 : decode cX5_copyFrom 31 = .ok (.aload_n 0, 1) := by decide +kernel
theorem dX5_copyFrom_32 : decode cX5_copyFrom 32 = .ok (.getfield 17, 3) := by decide +kernel
theorem dX5_copyFrom_35 : decode cX5_copyFrom 35 = .ok (.iload_n 2, 1) := by decide +kernel
theorem dX5_copyFrom_36 : decode cX5_copyFrom 36 = .ok (.aaload, 1) := by decide +kernel
theorem dX5_copyFrom_37 : decode cX5_copyFrom 37 = .ok (.aload_n 1, 1) := by decide +kernel
theorem dX5_copyFrom_38 : decode cX5_copyFrom 38 = .ok (.getfield 17, 3) := by decide +kernel
theorem dX5_copyFrom_41 : decode cX5_copyFrom 41 = .ok (.iload_n 2, 1) := by decide +kernel
theorem dX5_copyFrom_42 : decode cX5_copyFrom 42 = .ok (.aaload, 1) := by decide +kernel
theorem dX5_copyFrom_43 : decode cX5_copyFrom 43 = .ok (.invokevirtual 60, 3) := by decide +kernel
theorem dX5_copyFrom_46 : decode cX5_copyFrom 46 = .ok (.iinc 2 1, 3) := by decide +kernel
theorem dX5_copyFrom_49 : decode cX5_copyFrom 49 = .ok (.goto (-36), 3) := by decide +kernel
theorem dX5_copyFrom_52 : decode cX5_copyFrom 52 = .ok (.aload_n 0, 1) := by decide +kernel
theorem dX5_copyFrom_53 : decode cX5_copyFrom 53 = .ok (.aload_n 1, 1) := by decide +kernel
theorem dX5_copyFrom_54 : decode cX5_copyFrom 54 = .ok (.getfield 51, 3) := by decide +kernel
theorem dX5_copyFrom_57 : decode cX5_copyFrom 57 = .ok (.putfield 51, 3) := by decide +kernel
theorem dX5_copyFrom_60 : decode cX5_copyFrom 60 = .ok (.aload_n 0, 1) := by decide +kernel
theorem dX5_copyFrom_61 : decode cX5_copyFrom 61 = .ok (.aload_n 1, 1) := by decide +kernel
theorem dX5_copyFrom_62 : decode cX5_copyFrom 62 = .ok (.getfield 54, 3) := by decide +kernel
theorem dX5_copyFrom_65 : decode cX5_copyFrom 65 = .ok (.putfield 54, 3) := by decide +kernel
theorem dX5_copyFrom_68 : decode cX5_copyFrom 68 = .ok (.aload_n 0, 1) := by decide +kernel
theorem dX5_copyFrom_69 : decode cX5_copyFrom 69 = .ok (.aload_n 1, 1) := by decide +kernel
theorem dX5_copyFrom_70 : decode cX5_copyFrom 70 = .ok (.getfield 57, 3) := by decide +kernel
theorem dX5_copyFrom_73 : decode cX5_copyFrom 73 = .ok (.putfield 57, 3) := by decide +kernel
theorem dX5_copyFrom_76 : decode cX5_copyFrom 76 = .ok (.aload_n 0, 1) := by decide +kernel
theorem dX5_copyFrom_77 : decode cX5_copyFrom 77 = .ok (.iconst (-1), 1) := by decide +kernel
theorem dX5_copyFrom_78 : decode cX5_copyFrom 78 = .ok (.putfield 21, 3) := by decide +kernel
theorem dX5_copyFrom_81 : decode cX5_copyFrom 81 = .ok (.return_, 1) := by decide +kernel
theorem dX5_seat_0 : decode cX5_seat 0 = .ok (.aload_n 0, 1) := by decide +kernel
theorem dX5_seat_1 : decode cX5_seat 1 = .ok (.getfield 17, 3) := by decide +kernel
theorem dX5_seat_4 : decode cX5_seat 4 = .ok (.iload_n 1, 1) := by decide +kernel
theorem dX5_seat_5 : decode cX5_seat 5 = .ok (.ifCond .le 16, 3) := by decide +kernel
theorem dX5_seat_8 : decode cX5_seat 8 = .ok (.iload_n 1, 1) := by decide +kernel
theorem dX5_seat_9 : decode cX5_seat 9 = .ok (.aload_n 0, 1) := by decide +kernel
theorem dX5_seat_10 : decode cX5_seat 10 = .ok (.getfield 17, 3) := by decide +kernel
theorem dX5_seat_13 : decode cX5_seat 13 = .ok (.arraylength, 1) := by decide +kernel
theorem dX5_seat_14 : decode cX5_seat 14 = .ok (.if_icmp .ge 7, 3) := by decide +kernel
theorem dX5_seat_17 : decode cX5_seat 17 = .ok (.iload_n 1, 1) := by decide +kernel
theorem dX5_seat_18 : decode cX5_seat 18 = .ok (.goto 4, 3) := by decide +kernel
theorem dX5_seat_21 : decode cX5_seat 21 = .ok (.iconst 0, 1) := by decide +kernel
theorem dX5_seat_22 : decode cX5_seat 22 = .ok (.aaload, 1) := by decide +kernel
theorem dX5_seat_23 : decode cX5_seat 23 = .ok (.areturn, 1) := by decide +kernel
theorem dX5_rateAt_0 : decode cX5_rateAt 0 = .ok (.aload_n 0, 1) := by decide +kernel
theorem dX5_rateAt_1 : decode cX5_rateAt 1 = .ok (.getfield 21, 3) := by decide +kernel
theorem dX5_rateAt_4 : decode cX5_rateAt 4 = .ok (.iconst (-1), 1) := by decide +kernel
theorem dX5_rateAt_5 : decode cX5_rateAt 5 = .ok (.if_icmp .eq 8, 3) := by decide +kernel
theorem dX5_rateAt_8 : decode cX5_rateAt 8 = .ok (.aload_n 0, 1) := by decide +kernel
theorem dX5_rateAt_9 : decode cX5_rateAt 9 = .ok (.getfield 21, 3) := by decide +kernel
theorem dX5_rateAt_12 : decode cX5_rateAt 12 = .ok (.ireturn, 1) := by decide +kernel
theorem dX5_rateAt_13 : decode cX5_rateAt 13 = .ok (.aload_n 0, 1) := by decide +kernel
theorem dX5_rateAt_14 : decode cX5_rateAt 14 = .ok (.getfield 25, 3) := by decide +kernel
theorem dX5_rateAt_17 : decode cX5_rateAt 17 = .ok (.getfield 64, 3) := by decide +kernel
theorem dX5_rateAt_20 : decode cX5_rateAt 20 = .ok (.ifCond .le 15, 3) := by decide +kernel
theorem dX5_rateAt_23 : decode cX5_rateAt 23 = .ok (.iload_n 1, 1) := by decide +kernel
theorem dX5_rateAt_24 : decode cX5_rateAt 24 = .ok (.aload_n 0, 1) := by decide +kernel
theorem dX5_rateAt_25 : decode cX5_rateAt 25 = .ok (.getfield 25, 3) := by decide +kernel
theorem dX5_rateAt_28 : decode cX5_rateAt 28 = .ok (.getfield 64, 3) := by decide +kernel
theorem dX5_rateAt_31 : decode cX5_rateAt 31 = .ok (.irem, 1) := by decide +kernel
theorem dX5_rateAt_32 : decode cX5_rateAt 32 = .ok (.goto 4, 3) := by decide +kernel
theorem dX5_rateAt_35 : decode cX5_rateAt 35 = .ok (.iconst 0, 1) := by decide +kernel
theorem dX5_rateAt_36 : decode cX5_rateAt 36 = .ok (.istore_n 2, 1) := by decide +kernel
theorem dX5_rateAt_37 : decode cX5_rateAt 37 = .ok (.iconst 0, 1) := by decide +kernel
theorem dX5_rateAt_38 : decode cX5_rateAt 38 = .ok (.istore_n 3, 1) := by decide +kernel
theorem dX5_rateAt_39 : decode cX5_rateAt 39 = .ok (.iload_n 3, 1) := by decide +kernel
theorem dX5_rateAt_40 : decode cX5_rateAt 40 = .ok (.aload_n 0, 1) := by decide +kernel
theorem dX5_rateAt_41 : decode cX5_rateAt 41 = .ok (.getfield 25, 3) := by decide +kernel
theorem dX5_rateAt_44 : decode cX5_rateAt 44 = .ok (.getfield 67, 3) := by decide +kernel
theorem dX5_rateAt_47 : decode cX5_rateAt 47 = .ok (.if_icmp .ge 50, 3) := by decide +kernel
theorem dX5_rateAt_50 : decode cX5_rateAt 50 = .ok (.iload_n 3, 1) := by decide +kernel
theorem dX5_rateAt_51 : decode cX5_rateAt 51 = .ok (.aload_n 0, 1) := by decide +kernel
theorem dX5_rateAt_52 : decode cX5_rateAt 52 = .ok (.getfield 9, 3) := by decide +kernel
theorem dX5_rateAt_55 : decode cX5_rateAt 55 = .ok (.arraylength, 1) := by decide +kernel
theorem dX5_rateAt_56 : decode cX5_rateAt 56 = .ok (.if_icmp .ge 41, 3) := by decide +kernel
theorem dX5_rateAt_59 : decode cX5_rateAt 59 = .ok (.iload_n 2, 1) := by decide +kernel
theorem dX5_rateAt_60 : decode cX5_rateAt 60 = .ok (.aload_n 0, 1) := by decide +kernel
theorem dX5_rateAt_61 : decode cX5_rateAt 61 = .ok (.getfield 25, 3) := by decide +kernel
theorem dX5_rateAt_64 : decode cX5_rateAt 64 = .ok (.getfield 70, 3) := by decide +kernel
theorem dX5_rateAt_67 : decode cX5_rateAt 67 = .ok (.iload_n 3, 1) := by decide +kernel
theorem dX5_rateAt_68 : decode cX5_rateAt 68 = .ok (.iaload, 1) := by decide +kernel
theorem dX5_rateAt_69 : decode cX5_rateAt 69 = .ok (.if_icmp .ge 10, 3) := by decide +kernel
theorem dX5_rateAt_72 : decode cX5_rateAt 72 = .ok (.aload_n 0, 1) := by decide +kernel
theorem dX5_rateAt_73 : decode cX5_rateAt 73 = .ok (.getfield 9, 3) := by decide +kernel
theorem dX5_rateAt_76 : decode cX5_rateAt 76 = .ok (.iload_n 3, 1) := by decide +kernel
theorem dX5_rateAt_77 : decode cX5_rateAt 77 = .ok (.iaload, 1) := by decide +kernel
theorem dX5_rateAt_78 : decode cX5_rateAt 78 = .ok (.ireturn, 1) := by decide +kernel
theorem dX5_rateAt_79 : decode cX5_rateAt 79 = .ok (.iload_n 2, 1) := by decide +kernel
theorem dX5_rateAt_80 : decode cX5_rateAt 80 = .ok (.aload_n 0, 1) := by decide +kernel
theorem dX5_rateAt_81 : decode cX5_rateAt 81 = .ok (.getfield 25, 3) := by decide +kernel
theorem dX5_rateAt_84 : decode cX5_rateAt 84 = .ok (.getfield 70, 3) := by decide +kernel
theorem dX5_rateAt_87 : decode cX5_rateAt 87 = .ok (.iload_n 3, 1) := by decide +kernel
theorem dX5_rateAt_88 : decode cX5_rateAt 88 = .ok (.iaload, 1) := by decide +kernel
theorem dX5_rateAt_89 : decode cX5_rateAt 89 = .ok (.isub, 1) := by decide +kernel
theorem dX5_rateAt_90 : decode cX5_rateAt 90 = .ok (.istore_n 2, 1) := by decide +kernel
theorem dX5_rateAt_91 : decode cX5_rateAt 91 = .ok (.iinc 3 1, 3) := by decide +kernel
theorem dX5_rateAt_94 : decode cX5_rateAt 94 = .ok (.goto (-55), 3) := by decide +kernel
theorem dX5_rateAt_97 : decode cX5_rateAt 97 = .ok (.bipush 100, 2) := by decide +kernel
theorem dX5_rateAt_99 : decode cX5_rateAt 99 = .ok (.ireturn, 1) := by decide +kernel
theorem dX5_passTick_0 : decode cX5_passTick 0 = .ok (.aload_n 0, 1) := by decide +kernel
theorem dX5_passTick_1 : decode cX5_passTick 1 = .ok (.getfield 17, 3) := by decide +kernel
theorem dX5_passTick_4 : decode cX5_passTick 4 = .ok (.astore_n 1, 1) := by decide +kernel
theorem dX5_passTick_5 : decode cX5_passTick 5 = .ok (.aload_n 1, 1) := by decide +kernel
theorem dX5_passTick_6 : decode cX5_passTick 6 = .ok (.arraylength, 1) := by decide +kernel
theorem dX5_passTick_7 : decode cX5_passTick 7 = .ok (.istore_n 2, 1) := by decide +kernel
theorem dX5_passTick_8 : decode cX5_passTick 8 = .ok (.iconst 0, 1) := by decide +kernel
theorem dX5_passTick_9 : decode cX5_passTick 9 = .ok (.istore_n 3, 1) := by decide +kernel
theorem dX5_passTick_10 : decode cX5_passTick 10 = .ok (.iload_n 3, 1) := by decide +kernel
theorem dX5_passTick_11 : decode cX5_passTick 11 = .ok (.iload_n 2, 1) := by decide +kernel
theorem dX5_passTick_12 : decode cX5_passTick 12 = .ok (.if_icmp .ge 23, 3) := by decide +kernel
theorem dX5_passTick_15 : decode cX5_passTick 15 = .ok (.aload_n 1, 1) := by decide +kernel
theorem dX5_passTick_16 : decode cX5_passTick 16 = .ok (.iload_n 3, 1) := by decide +kernel
theorem dX5_passTick_17 : decode cX5_passTick 17 = .ok (.aaload, 1) := by decide +kernel
theorem dX5_passTick_18 : decode cX5_passTick 18 = .ok (.astore 4, 2) := by decide +kernel
theorem dX5_passTick_20 : decode cX5_passTick 20 = .ok (.aload 4, 2) := by decide +kernel
theorem dX5_passTick_22 : decode cX5_passTick 22 = .ok (.aload_n 0, 1) := by decide +kernel
theorem dX5_passTick_23 : decode cX5_passTick 23 = .ok (.getfield 51, 3) := by decide +kernel
theorem dX5_passTick_26 : decode cX5_passTick 26 = .ok (.invokevirtual 73, 3) := by decide +kernel
theorem dX5_passTick_29 : decode cX5_passTick 29 = .ok (.iinc 3 1, 3) := by decide +kernel
theorem dX5_passTick_32 : decode cX5_passTick 32 = .ok (.goto (-22), 3) := by decide +kernel
theorem dX5_passTick_35 : decode cX5_passTick 35 = .ok (.aload_n 0, 1) := by decide +kernel
theorem dX5_passTick_36 : decode cX5_passTick 36 = .ok (.aload_n 0, 1) := by decide +kernel
theorem dX5_passTick_37 : decode cX5_passTick 37 = .ok (.aload_n 0, 1) := by decide +kernel
theorem dX5_passTick_38 : decode cX5_passTick 38 = .ok (.getfield 51, 3) := by decide +kernel
theorem dX5_passTick_41 : decode cX5_passTick 41 = .ok (.invokevirtual 77, 3) := by decide +kernel
theorem dX5_passTick_44 : decode cX5_passTick 44 = .ok (.invokevirtual 81, 3) := by decide +kernel
theorem dX5_passTick_47 : decode cX5_passTick 47 = .ok (.aload_n 0, 1) := by decide +kernel
theorem dX5_passTick_48 : decode cX5_passTick 48 = .ok (.getfield 17, 3) := by decide +kernel
theorem dX5_passTick_51 : decode cX5_passTick 51 = .ok (.astore_n 1, 1) := by decide +kernel
theorem dX5_passTick_52 : decode cX5_passTick 52 = .ok (.aload_n 1, 1) := by decide +kernel
theorem dX5_passTick_53 : decode cX5_passTick 53 = .ok (.arraylength, 1) := by decide +kernel
theorem dX5_passTick_54 : decode cX5_passTick 54 = .ok (.istore_n 2, 1) := by decide +kernel
theorem dX5_passTick_55 : decode cX5_passTick 55 = .ok (.iconst 0, 1) := by decide +kernel
theorem dX5_passTick_56 : decode cX5_passTick 56 = .ok (.istore_n 3, 1) := by decide +kernel
theorem dX5_passTick_57 : decode cX5_passTick 57 = .ok (.iload_n 3, 1) := by decide +kernel
theorem dX5_passTick_58 : decode cX5_passTick 58 = .ok (.iload_n 2, 1) := by decide +kernel
theorem dX5_passTick_59 : decode cX5_passTick 59 = .ok (.if_icmp .ge 23, 3) := by decide +kernel
theorem dX5_passTick_62 : decode cX5_passTick 62 = .ok (.aload_n 1, 1) := by decide +kernel
theorem dX5_passTick_63 : decode cX5_passTick 63 = .ok (.iload_n 3, 1) := by decide +kernel
theorem dX5_passTick_64 : decode cX5_passTick 64 = .ok (.aaload, 1) := by decide +kernel
theorem dX5_passTick_65 : decode cX5_passTick 65 = .ok (.astore 4, 2) := by decide +kernel
theorem dX5_passTick_67 : decode cX5_passTick 67 = .ok (.aload 4, 2) := by decide +kernel
theorem dX5_passTick_69 : decode cX5_passTick 69 = .ok (.aload_n 0, 1) := by decide +kernel
theorem dX5_passTick_70 : decode cX5_passTick 70 = .ok (.getfield 51, 3) := by decide +kernel
theorem dX5_passTick_73 : decode cX5_passTick 73 = .ok (.invokevirtual 84, 3) := by decide +kernel
theorem dX5_passTick_76 : decode cX5_passTick 76 = .ok (.iinc 3 1, 3) := by decide +kernel
theorem dX5_passTick_79 : decode cX5_passTick 79 = .ok (.goto (-22), 3) := by decide +kernel
theorem dX5_passTick_82 : decode cX5_passTick 82 = .ok (.aload_n 0, 1) := by decide +kernel
theorem dX5_passTick_83 : decode cX5_passTick 83 = .ok (.getfield 17, 3) := by decide +kernel
theorem dX5_passTick_86 : decode cX5_passTick 86 = .ok (.astore_n 1, 1) := by decide +kernel
theorem dX5_passTick_87 : decode cX5_passTick 87 = .ok (.aload_n 1, 1) := by decide +kernel
theorem dX5_passTick_88 : decode cX5_passTick 88 = .ok (.arraylength, 1) := by decide +kernel
theorem dX5_passTick_89 : decode cX5_passTick 89 = .ok (.istore_n 2, 1) := by decide +kernel
theorem dX5_passTick_90 : decode cX5_passTick 90 = .ok (.iconst 0, 1) := by decide +kernel
theorem dX5_passTick_91 : decode cX5_passTick 91 = .ok (.istore_n 3, 1) := by decide +kernel
theorem dX5_passTick_92 : decode cX5_passTick 92 = .ok (.iload_n 3, 1) := by decide +kernel
theorem dX5_passTick_93 : decode cX5_passTick 93 = .ok (.iload_n 2, 1) := by decide +kernel
theorem dX5_passTick_94 : decode cX5_passTick 94 = .ok (.if_icmp .ge 23, 3) := by decide +kernel
theorem dX5_passTick_97 : decode cX5_passTick 97 = .ok (.aload_n 1, 1) := by decide +kernel
theorem dX5_passTick_98 : decode cX5_passTick 98 = .ok (.iload_n 3, 1) := by decide +kernel
theorem dX5_passTick_99 : decode cX5_passTick 99 = .ok (.aaload, 1) := by decide +kernel
theorem dX5_passTick_100 : decode cX5_passTick 100 = .ok (.astore 4, 2) := by decide +kernel
theorem dX5_passTick_102 : decode cX5_passTick 102 = .ok (.aload 4, 2) := by decide +kernel
theorem dX5_passTick_104 : decode cX5_passTick 104 = .ok (.aload_n 0, 1) := by decide +kernel
theorem dX5_passTick_105 : decode cX5_passTick 105 = .ok (.getfield 51, 3) := by decide +kernel
theorem dX5_passTick_108 : decode cX5_passTick 108 = .ok (.invokevirtual 87, 3) := by decide +kernel
theorem dX5_passTick_111 : decode cX5_passTick 111 = .ok (.iinc 3 1, 3) := by decide +kernel
theorem dX5_passTick_114 : decode cX5_passTick 114 = .ok (.goto (-22), 3) := by decide +kernel
theorem dX5_passTick_117 : decode cX5_passTick 117 = .ok (.aload_n 0, 1) := by decide +kernel
theorem dX5_passTick_118 : decode cX5_passTick 118 = .ok (.dup, 1) := by decide +kernel
theorem dX5_passTick_119 : decode cX5_passTick 119 = .ok (.getfield 51, 3) := by decide +kernel
theorem dX5_passTick_122 : decode cX5_passTick 122 = .ok (.iconst 1, 1) := by decide +kernel
theorem dX5_passTick_123 : decode cX5_passTick 123 = .ok (.iadd, 1) := by decide +kernel
theorem dX5_passTick_124 : decode cX5_passTick 124 = .ok (.putfield 51, 3) := by decide +kernel
theorem dX5_passTick_127 : decode cX5_passTick 127 = .ok (.return_, 1) := by decide +kernel
theorem dX5_shareLink_0 : decode cX5_shareLink 0 = .ok (.iload_n 1, 1) := by decide +kernel
theorem dX5_shareLink_1 : decode cX5_shareLink 1 = .ok (.istore_n 2, 1) := by decide +kernel
theorem dX5_shareLink_2 : decode cX5_shareLink 2 = .ok (.aload_n 0, 1) := by decide +kernel
theorem dX5_shareLink_3 : decode cX5_shareLink 3 = .ok (.invokevirtual 90, 3) := by decide +kernel
theorem dX5_shareLink_6 : decode cX5_shareLink 6 = .ok (.istore_n 3, 1) := by decide +kernel
theorem dX5_shareLink_7 : decode cX5_shareLink 7 = .ok (.iconst 0, 1) := by decide +kernel
theorem dX5_shareLink_8 : decode cX5_shareLink 8 = .ok (.istore 4, 2) := by decide +kernel
theorem dX5_shareLink_10 : decode cX5_shareLink 10 = .ok (.iload 4, 2) := by decide +kernel
theorem dX5_shareLink_12 : decode cX5_shareLink 12 = .ok (.iload_n 1, 1) := by decide +kernel
theorem dX5_shareLink_13 : decode cX5_shareLink 13 = .ok (.if_icmp .ge 48, 3) := by decide +kernel
theorem dX5_shareLink_16 : decode cX5_shareLink 16 = .ok (.iload_n 2, 1) := by decide +kernel
theorem dX5_shareLink_17 : decode cX5_shareLink 17 = .ok (.ifCond .le 44, 3) := by decide +kernel
theorem dX5_shareLink_20 : decode cX5_shareLink 20 = .ok (.iload_n 3, 1) := by decide +kernel
theorem dX5_shareLink_21 : decode cX5_shareLink 21 = .ok (.ifCond .le 40, 3) := by decide +kernel
theorem dX5_shareLink_24 : decode cX5_shareLink 24 = .ok (.aload_n 0, 1) := by decide +kernel
theorem dX5_shareLink_25 : decode cX5_shareLink 25 = .ok (.iload_n 2, 1) := by decide +kernel
theorem dX5_shareLink_26 : decode cX5_shareLink 26 = .ok (.iload_n 3, 1) := by decide +kernel
theorem dX5_shareLink_27 : decode cX5_shareLink 27 = .ok (.invokevirtual 94, 3) := by decide +kernel
theorem dX5_shareLink_30 : decode cX5_shareLink 30 = .ok (.istore 5, 2) := by decide +kernel
theorem dX5_shareLink_32 : decode cX5_shareLink 32 = .ok (.iload_n 2, 1) := by decide +kernel
theorem dX5_shareLink_33 : decode cX5_shareLink 33 = .ok (.iload 5, 2) := by decide +kernel
theorem dX5_shareLink_35 : decode cX5_shareLink 35 = .ok (.ifCond .le 8, 3) := by decide +kernel
theorem dX5_shareLink_38 : decode cX5_shareLink 38 = .ok (.iload 5, 2) := by decide +kernel
theorem dX5_shareLink_40 : decode cX5_shareLink 40 = .ok (.goto 8, 3) := by decide +kernel
theorem dX5_shareLink_43 : decode cX5_shareLink 43 = .ok (.aload_n 0, 1) := by decide +kernel
theorem dX5_shareLink_44 : decode cX5_shareLink 44 = .ok (.iload_n 2, 1) := by decide +kernel
theorem dX5_shareLink_45 : decode cX5_shareLink 45 = .ok (.invokevirtual 98, 3) := by decide +kernel
theorem dX5_shareLink_48 : decode cX5_shareLink 48 = .ok (.isub, 1) := by decide +kernel
theorem dX5_shareLink_49 : decode cX5_shareLink 49 = .ok (.istore_n 2, 1) := by decide +kernel
theorem dX5_shareLink_50 : decode cX5_shareLink 50 = .ok (.aload_n 0, 1) := by decide +kernel
theorem dX5_shareLink_51 : decode cX5_shareLink 51 = .ok (.invokevirtual 90, 3) := by decide +kernel
theorem dX5_shareLink_54 : decode cX5_shareLink 54 = .ok (.istore_n 3, 1) := by decide +kernel
theorem dX5_shareLink_55 : decode cX5_shareLink 55 = .ok (.iinc 4 1, 3) := by decide +kernel
theorem dX5_shareLink_58 : decode cX5_shareLink 58 = .ok (.goto (-48), 3) := by decide +kernel
theorem dX5_shareLink_61 : decode cX5_shareLink 61 = .ok (.aload_n 0, 1) := by decide +kernel
theorem dX5_shareLink_62 : decode cX5_shareLink 62 = .ok (.dup, 1) := by decide +kernel
theorem dX5_shareLink_63 : decode cX5_shareLink 63 = .ok (.getfield 54, 3) := by decide +kernel
theorem dX5_shareLink_66 : decode cX5_shareLink 66 = .ok (.iload_n 1, 1) := by decide +kernel
theorem dX5_shareLink_67 : decode cX5_shareLink 67 = .ok (.iload_n 2, 1) := by decide +kernel
theorem dX5_shareLink_68 : decode cX5_shareLink 68 = .ok (.isub, 1) := by decide +kernel
theorem dX5_shareLink_69 : decode cX5_shareLink 69 = .ok (.iadd, 1) := by decide +kernel
theorem dX5_shareLink_70 : decode cX5_shareLink 70 = .ok (.putfield 54, 3) := by decide +kernel
theorem dX5_shareLink_73 : decode cX5_shareLink 73 = .ok (.aload_n 0, 1) := by decide +kernel
theorem dX5_shareLink_74 : decode cX5_shareLink 74 = .ok (.dup, 1) := by decide +kernel
theorem dX5_shareLink_75 : decode cX5_shareLink 75 = .ok (.getfield 57, 3) := by decide +kernel
theorem dX5_shareLink_78 : decode cX5_shareLink 78 = .ok (.iload_n 2, 1) := by decide +kernel
theorem dX5_shareLink_79 : decode cX5_shareLink 79 = .ok (.iadd, 1) := by decide +kernel
theorem dX5_shareLink_80 : decode cX5_shareLink 80 = .ok (.putfield 57, 3) := by decide +kernel
theorem dX5_shareLink_83 : decode cX5_shareLink 83 = .ok (.return_, 1) := by decide +kernel
theorem dX5_weightsInNeed_0 : decode cX5_weightsInNeed 0 = .ok (.iconst 0, 1) := by decide +kernel
theorem dX5_weightsInNeed_1 : decode cX5_weightsInNeed 1 = .ok (.istore_n 1, 1) := by decide +kernel
theorem dX5_weightsInNeed_2 : decode cX5_weightsInNeed 2 = .ok (.aload_n 0, 1) := by decide +kernel
theorem dX5_weightsInNeed_3 : decode cX5_weightsInNeed 3 = .ok (.getfield 17, 3) := by decide +kernel
theorem dX5_weightsInNeed_6 : decode cX5_weightsInNeed 6 = .ok (.astore_n 2, 1) := by decide +kernel
theorem dX5_weightsInNeed_7 : decode cX5_weightsInNeed 7 = .ok (.aload_n 2, 1) := by decide +kernel
theorem dX5_weightsInNeed_8 : decode cX5_weightsInNeed 8 = .ok (.arraylength, 1) := by decide +kernel
theorem dX5_weightsInNeed_9 : decode cX5_weightsInNeed 9 = .ok (.istore_n 3, 1) := by decide +kernel
theorem dX5_weightsInNeed_10 : decode cX5_weightsInNeed 10 = .ok (.iconst 0, 1) := by decide +kernel
theorem dX5_weightsInNeed_11 : decode cX5_weightsInNeed 11 = .ok (.istore 4, 2) := by decide +kernel
theorem dX5_weightsInNeed_13 : decode cX5_weightsInNeed 13 = .ok (.iload 4, 2) := by decide +kernel
theorem dX5_weightsInNeed_15 : decode cX5_weightsInNeed 15 = .ok (.iload_n 3, 1) := by decide +kernel
theorem dX5_weightsInNeed_16 : decode cX5_weightsInNeed 16 = .ok (.if_icmp .ge 39, 3) := by decide +kernel
theorem dX5_weightsInNeed_19 : decode cX5_weightsInNeed 19 = .ok (.aload_n 2, 1) := by decide +kernel
theorem dX5_weightsInNeed_20 : decode cX5_weightsInNeed 20 = .ok (.iload 4, 2) := by decide +kernel
theorem dX5_weightsInNeed_22 : decode cX5_weightsInNeed 22 = .ok (.aaload, 1) := by decide +kernel
theorem dX5_weightsInNeed_23 : decode cX5_weightsInNeed 23 = .ok (.astore 5, 2) := by decide +kernel
theorem dX5_weightsInNeed_25 : decode cX5_weightsInNeed 25 = .ok (.aload 5, 2) := by decide +kernel
theorem dX5_weightsInNeed_27 : decode cX5_weightsInNeed 27 = .ok (.invokevirtual 101, 3) := by decide +kernel
theorem dX5_weightsInNeed_30 : decode cX5_weightsInNeed 30 = .ok (.ifCond .eq 19, 3) := by decide +kernel
theorem dX5_weightsInNeed_33 : decode cX5_weightsInNeed 33 = .ok (.aload 5, 2) := by decide +kernel
theorem dX5_weightsInNeed_35 : decode cX5_weightsInNeed 35 = .ok (.getfield 105, 3) := by decide +kernel
theorem dX5_weightsInNeed_38 : decode cX5_weightsInNeed 38 = .ok (.ifCond .le 11, 3) := by decide +kernel
theorem dX5_weightsInNeed_41 : decode cX5_weightsInNeed 41 = .ok (.iload_n 1, 1) := by decide +kernel
theorem dX5_weightsInNeed_42 : decode cX5_weightsInNeed 42 = .ok (.aload 5, 2) := by decide +kernel
theorem dX5_weightsInNeed_44 : decode cX5_weightsInNeed 44 = .ok (.getfield 108, 3) := by decide +kernel
theorem dX5_weightsInNeed_47 : decode cX5_weightsInNeed 47 = .ok (.iadd, 1) := by decide +kernel
theorem dX5_weightsInNeed_48 : decode cX5_weightsInNeed 48 = .ok (.istore_n 1, 1) := by decide +kernel
theorem dX5_weightsInNeed_49 : decode cX5_weightsInNeed 49 = .ok (.iinc 4 1, 3) := by decide +kernel
theorem dX5_weightsInNeed_52 : decode cX5_weightsInNeed 52 = .ok (.goto (-39), 3) := by decide +kernel
theorem dX5_weightsInNeed_55 : decode cX5_weightsInNeed 55 = .ok (.iload_n 1, 1) := by decide +kernel
theorem dX5_weightsInNeed_56 : decode cX5_weightsInNeed 56 = .ok (.ireturn, 1) := by decide +kernel
theorem dX5_giveByWeight_0 : decode cX5_giveByWeight 0 = .ok (.iconst 0, 1) := by decide +kernel
theorem dX5_giveByWeight_1 : decode cX5_giveByWeight 1 = .ok (.istore_n 3, 1) := by decide +kernel
theorem dX5_giveByWeight_2 : decode cX5_giveByWeight 2 = .ok (.aload_n 0, 1) := by decide +kernel
theorem dX5_giveByWeight_3 : decode cX5_giveByWeight 3 = .ok (.getfield 17, 3) := by decide +kernel
theorem dX5_giveByWeight_6 : decode cX5_giveByWeight 6 = .ok (.astore 4, 2) := by decide +kernel
theorem dX5_giveByWeight_8 : decode cX5_giveByWeight 8 = .ok (.aload 4, 2) := by decide +kernel
theorem dX5_giveByWeight_10 : decode cX5_giveByWeight 10 = .ok (.arraylength, 1) := by decide +kernel
theorem dX5_giveByWeight_11 : decode cX5_giveByWeight 11 = .ok (.istore 5, 2) := by decide +kernel
theorem dX5_giveByWeight_13 : decode cX5_giveByWeight 13 = .ok (.iconst 0, 1) := by decide +kernel
theorem dX5_giveByWeight_14 : decode cX5_giveByWeight 14 = .ok (.istore 6, 2) := by decide +kernel
theorem dX5_giveByWeight_16 : decode cX5_giveByWeight 16 = .ok (.iload 6, 2) := by decide +kernel
theorem dX5_giveByWeight_18 : decode cX5_giveByWeight 18 = .ok (.iload 5, 2) := by decide +kernel
theorem dX5_giveByWeight_20 : decode cX5_giveByWeight 20 = .ok (.if_icmp .ge 67, 3) := by decide +kernel
theorem dX5_giveByWeight_23 : decode cX5_giveByWeight 23 = .ok (.aload 4, 2) := by decide +kernel
theorem dX5_giveByWeight_25 : decode cX5_giveByWeight 25 = .ok (.iload 6, 2) := by decide +kernel
theorem dX5_giveByWeight_27 : decode cX5_giveByWeight 27 = .ok (.aaload, 1) := by decide +kernel
theorem dX5_giveByWeight_28 : decode cX5_giveByWeight 28 = .ok (.astore 7, 2) := by decide +kernel
theorem dX5_giveByWeight_30 : decode cX5_giveByWeight 30 = .ok (.aload 7, 2) := by decide +kernel
theorem dX5_giveByWeight_32 : decode cX5_giveByWeight 32 = .ok (.invokevirtual 101, 3) := by decide +kernel
theorem dX5_giveByWeight_35 : decode cX5_giveByWeight 35 = .ok (.ifCond .eq 46, 3) := by decide +kernel
theorem dX5_giveByWeight_38 : decode cX5_giveByWeight 38 = .ok (.aload 7, 2) := by decide +kernel
theorem dX5_giveByWeight_40 : decode cX5_giveByWeight 40 = .ok (.getfield 105, 3) := by decide +kernel
theorem dX5_giveByWeight_43 : decode cX5_giveByWeight 43 = .ok (.ifCond .le 38, 3) := by decide +kernel
theorem dX5_giveByWeight_46 : decode cX5_giveByWeight 46 = .ok (.iload_n 2, 1) := by decide +kernel
theorem dX5_giveByWeight_47 : decode cX5_giveByWeight 47 = .ok (.ifCond .le 34, 3) := by decide +kernel
theorem dX5_giveByWeight_50 : decode cX5_giveByWeight 50 = .ok (.iload_n 1, 1) := by decide +kernel
theorem dX5_giveByWeight_51 : decode cX5_giveByWeight 51 = .ok (.aload 7, 2) := by decide +kernel
theorem dX5_giveByWeight_53 : decode cX5_giveByWeight 53 = .ok (.getfield 108, 3) := by decide +kernel
theorem dX5_giveByWeight_56 : decode cX5_giveByWeight 56 = .ok (.imul, 1) := by decide +kernel
theorem dX5_giveByWeight_57 : decode cX5_giveByWeight 57 = .ok (.iload_n 2, 1) := by decide +kernel
theorem dX5_giveByWeight_58 : decode cX5_giveByWeight 58 = .ok (.idiv, 1) := by decide +kernel
theorem dX5_giveByWeight_59 : decode cX5_giveByWeight 59 = .ok (.aload 7, 2) := by decide +kernel
theorem dX5_giveByWeight_61 : decode cX5_giveByWeight 61 = .ok (.getfield 105, 3) := by decide +kernel
theorem dX5_giveByWeight_64 : decode cX5_giveByWeight 64 = .ok (.invokestatic 111, 3) := by decide +kernel
theorem dX5_giveByWeight_67 : decode cX5_giveByWeight 67 = .ok (.istore 8, 2) := by decide +kernel
theorem dX5_giveByWeight_69 : decode cX5_giveByWeight 69 = .ok (.aload 7, 2) := by decide +kernel
theorem dX5_giveByWeight_71 : decode cX5_giveByWeight 71 = .ok (.iload 8, 2) := by decide +kernel
theorem dX5_giveByWeight_73 : decode cX5_giveByWeight 73 = .ok (.invokevirtual 116, 3) := by decide +kernel
theorem dX5_giveByWeight_76 : decode cX5_giveByWeight 76 = .ok (.iload_n 3, 1) := by decide +kernel
theorem dX5_giveByWeight_77 : decode cX5_giveByWeight 77 = .ok (.iload 8, 2) := by decide +kernel
theorem dX5_giveByWeight_79 : decode cX5_giveByWeight 79 = .ok (.iadd, 1) := by decide +kernel
theorem dX5_giveByWeight_80 : decode cX5_giveByWeight 80 = .ok (.istore_n 3, 1) := by decide +kernel
theorem dX5_giveByWeight_81 : decode cX5_giveByWeight 81 = .ok (.iinc 6 1, 3) := by decide +kernel
theorem dX5_giveByWeight_84 : decode cX5_giveByWeight 84 = .ok (.goto (-68), 3) := by decide +kernel
theorem dX5_giveByWeight_87 : decode cX5_giveByWeight 87 = .ok (.iload_n 3, 1) := by decide +kernel
theorem dX5_giveByWeight_88 : decode cX5_giveByWeight 88 = .ok (.ireturn, 1) := by decide +kernel
theorem dX5_giveSingly_0 : decode cX5_giveSingly 0 = .ok (.iconst 0, 1) := by decide +kernel
theorem dX5_giveSingly_1 : decode cX5_giveSingly 1 = .ok (.istore_n 2, 1) := by decide +kernel
theorem dX5_giveSingly_2 : decode cX5_giveSingly 2 = .ok (.aload_n 0, 1) := by decide +kernel
theorem dX5_giveSingly_3 : decode cX5_giveSingly 3 = .ok (.getfield 17, 3) := by decide +kernel
theorem dX5_giveSingly_6 : decode cX5_giveSingly 6 = .ok (.astore_n 3, 1) := by decide +kernel
theorem dX5_giveSingly_7 : decode cX5_giveSingly 7 = .ok (.aload_n 3, 1) := by decide +kernel
theorem dX5_giveSingly_8 : decode cX5_giveSingly 8 = .ok (.arraylength, 1) := by decide +kernel
theorem dX5_giveSingly_9 : decode cX5_giveSingly 9 = .ok (.istore 4, 2) := by decide +kernel
theorem dX5_giveSingly_11 : decode cX5_giveSingly 11 = .ok (.iconst 0, 1) := by decide +kernel
theorem dX5_giveSingly_12 : decode cX5_giveSingly 12 = .ok (.istore 5, 2) := by decide +kernel
theorem dX5_giveSingly_14 : decode cX5_giveSingly 14 = .ok (.iload 5, 2) := by decide +kernel
theorem dX5_giveSingly_16 : decode cX5_giveSingly 16 = .ok (.iload 4, 2) := by decide +kernel
theorem dX5_giveSingly_18 : decode cX5_giveSingly 18 = .ok (.if_icmp .ge 45, 3) := by decide +kernel
theorem dX5_giveSingly_21 : decode cX5_giveSingly 21 = .ok (.aload_n 3, 1) := by decide +kernel
theorem dX5_giveSingly_22 : decode cX5_giveSingly 22 = .ok (.iload 5, 2) := by decide +kernel
theorem dX5_giveSingly_24 : decode cX5_giveSingly 24 = .ok (.aaload, 1) := by decide +kernel
theorem dX5_giveSingly_25 : decode cX5_giveSingly 25 = .ok (.astore 6, 2) := by decide +kernel
theorem dX5_giveSingly_27 : decode cX5_giveSingly 27 = .ok (.iload_n 2, 1) := by decide +kernel
theorem dX5_giveSingly_28 : decode cX5_giveSingly 28 = .ok (.iload_n 1, 1) := by decide +kernel
theorem dX5_giveSingly_29 : decode cX5_giveSingly 29 = .ok (.if_icmp .ge 28, 3) := by decide +kernel
theorem dX5_giveSingly_32 : decode cX5_giveSingly 32 = .ok (.aload 6, 2) := by decide +kernel
theorem dX5_giveSingly_34 : decode cX5_giveSingly 34 = .ok (.invokevirtual 101, 3) := by decide +kernel
theorem dX5_giveSingly_37 : decode cX5_giveSingly 37 = .ok (.ifCond .eq 20, 3) := by decide +kernel
theorem dX5_giveSingly_40 : decode cX5_giveSingly 40 = .ok (.aload 6, 2) := by decide +kernel
theorem dX5_giveSingly_42 : decode cX5_giveSingly 42 = .ok (.getfield 105, 3) := by decide +kernel
theorem dX5_giveSingly_45 : decode cX5_giveSingly 45 = .ok (.ifCond .le 12, 3) := by decide +kernel
theorem dX5_giveSingly_48 : decode cX5_giveSingly 48 = .ok (.aload 6, 2) := by decide +kernel
theorem dX5_giveSingly_50 : decode cX5_giveSingly 50 = .ok (.iconst 1, 1) := by decide +kernel
theorem dX5_giveSingly_51 : decode cX5_giveSingly 51 = .ok (.invokevirtual 116, 3) := by decide +kernel
theorem dX5_giveSingly_54 : decode cX5_giveSingly 54 = .ok (.iinc 2 1, 3) := by decide +kernel
theorem dX5_giveSingly_57 : decode cX5_giveSingly 57 = .ok (.iinc 5 1, 3) := by decide +kernel
theorem dX5_giveSingly_60 : decode cX5_giveSingly 60 = .ok (.goto (-46), 3) := by decide +kernel
theorem dX5_giveSingly_63 : decode cX5_giveSingly 63 = .ok (.iload_n 2, 1) := by decide +kernel
theorem dX5_giveSingly_64 : decode cX5_giveSingly 64 = .ok (.ireturn, 1) := by decide +kernel
theorem dX5_passToEnd_0 : decode cX5_passToEnd 0 = .ok (.aload_n 0, 1) := by decide +kernel
theorem dX5_passToEnd_1 : decode cX5_passToEnd 1 = .ok (.getfield 51, 3) := by decide +kernel
theorem dX5_passToEnd_4 : decode cX5_passToEnd 4 = .ok (.istore_n 1, 1) := by decide +kernel
theorem dX5_passToEnd_5 : decode cX5_passToEnd 5 = .ok (.iload_n 1, 1) := by decide +kernel
theorem dX5_passToEnd_6 : decode cX5_passToEnd 6 = .ok (.sipush 2000, 3) := by decide +kernel
theorem dX5_passToEnd_9 : decode cX5_passToEnd 9 = .ok (.if_icmp .ge 20, 3) := by decide +kernel
theorem dX5_passToEnd_12 : decode cX5_passToEnd 12 = .ok (.aload_n 0, 1) := by decide +kernel
theorem dX5_passToEnd_13 : decode cX5_passToEnd 13 = .ok (.invokevirtual 119, 3) := by decide +kernel
theorem dX5_passToEnd_16 : decode cX5_passToEnd 16 = .ok (.ifCond .eq 13, 3) := by decide +kernel
theorem dX5_passToEnd_19 : decode cX5_passToEnd 19 = .ok (.aload_n 0, 1) := by decide +kernel
theorem dX5_passToEnd_20 : decode cX5_passToEnd 20 = .ok (.invokevirtual 122, 3) := by decide +kernel
theorem dX5_passToEnd_23 : decode cX5_passToEnd 23 = .ok (.iinc 1 1, 3) := by decide +kernel
theorem dX5_passToEnd_26 : decode cX5_passToEnd 26 = .ok (.goto (-21), 3) := by decide +kernel
theorem dX5_passToEnd_29 : decode cX5_passToEnd 29 = .ok (.return_, 1) := by decide +kernel
theorem dX5_anyActive_0 : decode cX5_anyActive 0 = .ok (.aload_n 0, 1) := by decide +kernel
theorem dX5_anyActive_1 : decode cX5_anyActive 1 = .ok (.getfield 17, 3) := by decide +kernel
theorem dX5_anyActive_4 : decode cX5_anyActive 4 = .ok (.astore_n 1, 1) := by decide +kernel
theorem dX5_anyActive_5 : decode cX5_anyActive 5 = .ok (.aload_n 1, 1) := by decide +kernel
theorem dX5_anyActive_6 : decode cX5_anyActive 6 = .ok (.arraylength, 1) := by decide +kernel
theorem dX5_anyActive_7 : decode cX5_anyActive 7 = .ok (.istore_n 2, 1) := by decide +kernel
theorem dX5_anyActive_8 : decode cX5_anyActive 8 = .ok (.iconst 0, 1) := by decide +kernel
theorem dX5_anyActive_9 : decode cX5_anyActive 9 = .ok (.istore_n 3, 1) := by decide +kernel
theorem dX5_anyActive_10 : decode cX5_anyActive 10 = .ok (.iload_n 3, 1) := by decide +kernel
theorem dX5_anyActive_11 : decode cX5_anyActive 11 = .ok (.iload_n 2, 1) := by decide +kernel
theorem dX5_anyActive_12 : decode cX5_anyActive 12 = .ok (.if_icmp .ge 24, 3) := by decide +kernel
theorem dX5_anyActive_15 : decode cX5_anyActive 15 = .ok (.aload_n 1, 1) := by decide +kernel
theorem dX5_anyActive_16 : decode cX5_anyActive 16 = .ok (.iload_n 3, 1) := by decide +kernel
theorem dX5_anyActive_17 : decode cX5_anyActive 17 = .ok (.aaload, 1) := by decide +kernel
theorem dX5_anyActive_18 : decode cX5_anyActive 18 = .ok (.astore 4, 2) := by decide +kernel
theorem dX5_anyActive_20 : decode cX5_anyActive 20 = .ok (.aload 4, 2) := by decide +kernel
theorem dX5_anyActive_22 : decode cX5_anyActive 22 = .ok (.invokevirtual 125, 3) := by decide +kernel
theorem dX5_anyActive_25 : decode cX5_anyActive 25 = .ok (.ifCond .eq 5, 3) := by decide +kernel
theorem dX5_anyActive_28 : decode cX5_anyActive 28 = .ok (.iconst 1, 1) := by decide +kernel
theorem dX5_anyActive_29 : decode cX5_anyActive 29 = .ok (.ireturn, 1) := by decide +kernel
theorem dX5_anyActive_30 : decode cX5_anyActive 30 = .ok (.iinc 3 1, 3) := by decide +kernel
theorem dX5_anyActive_33 : decode cX5_anyActive 33 = .ok (.goto (-23), 3) := by decide +kernel
theorem dX5_anyActive_36 : decode cX5_anyActive 36 = .ok (.iconst 0, 1) := by decide +kernel
theorem dX5_anyActive_37 : decode cX5_anyActive 37 = .ok (.ireturn, 1) := by decide +kernel
theorem dX5_countLoading_0 : decode cX5_countLoading 0 = .ok (.iconst 0, 1) := by decide +kernel
theorem dX5_countLoading_1 : decode cX5_countLoading 1 = .ok (.istore_n 1, 1) := by decide +kernel
theorem dX5_countLoading_2 : decode cX5_countLoading 2 = .ok (.aload_n 0, 1) := by decide +kernel
theorem dX5_countLoading_3 : decode cX5_countLoading 3 = .ok (.getfield 17, 3) := by decide +kernel
theorem dX5_countLoading_6 : decode cX5_countLoading 6 = .ok (.astore_n 2, 1) := by decide +kernel
theorem dX5_countLoading_7 : decode cX5_countLoading 7 = .ok (.aload_n 2, 1) := by decide +kernel
theorem dX5_countLoading_8 : decode cX5_countLoading 8 = .ok (.arraylength, 1) := by decide +kernel
theorem dX5_countLoading_9 : decode cX5_countLoading 9 = .ok (.istore_n 3, 1) := by decide +kernel
theorem dX5_countLoading_10 : decode cX5_countLoading 10 = .ok (.iconst 0, 1) := by decide +kernel
theorem dX5_countLoading_11 : decode cX5_countLoading 11 = .ok (.istore 4, 2) := by decide +kernel
theorem dX5_countLoading_13 : decode cX5_countLoading 13 = .ok (.iload 4, 2) := by decide +kernel
theorem dX5_countLoading_15 : decode cX5_countLoading 15 = .ok (.iload_n 3, 1) := by decide +kernel
theorem dX5_countLoading_16 : decode cX5_countLoading 16 = .ok (.if_icmp .ge 26, 3) := by decide +kernel
theorem dX5_countLoading_19 : decode cX5_countLoading 19 = .ok (.aload_n 2, 1) := by decide +kernel
theorem dX5_countLoading_20 : decode cX5_countLoading 20 = .ok (.iload 4, 2) := by decide +kernel
theorem dX5_countLoading_22 : decode cX5_countLoading 22 = .ok (.aaload, 1) := by decide +kernel
theorem dX5_countLoading_23 : decode cX5_countLoading 23 = .ok (.astore 5, 2) := by decide +kernel
theorem dX5_countLoading_25 : decode cX5_countLoading 25 = .ok (.aload 5, 2) := by decide +kernel
theorem dX5_countLoading_27 : decode cX5_countLoading 27 = .ok (.invokevirtual 101, 3) := by decide +kernel
theorem dX5_countLoading_30 : decode cX5_countLoading 30 = .ok (.ifCond .eq 6, 3) := by decide +kernel
theorem dX5_countLoading_33 : decode cX5_countLoading 33 = .ok (.iinc 1 1, 3) := by decide +kernel
theorem dX5_countLoading_36 : decode cX5_countLoading 36 = .ok (.iinc 4 1, 3) := by decide +kernel
theorem dX5_countLoading_39 : decode cX5_countLoading 39 = .ok (.goto (-26), 3) := by decide +kernel
theorem dX5_countLoading_42 : decode cX5_countLoading 42 = .ok (.iload_n 1, 1) := by decide +kernel
theorem dX5_countLoading_43 : decode cX5_countLoading 43 = .ok (.ireturn, 1) := by decide +kernel
theorem dX5_countDone_0 : decode cX5_countDone 0 = .ok (.iconst 0, 1) := by decide +kernel
theorem dX5_countDone_1 : decode cX5_countDone 1 = .ok (.istore_n 1, 1) := by decide +kernel
theorem dX5_countDone_2 : decode cX5_countDone 2 = .ok (.aload_n 0, 1) := by decide +kernel
theorem dX5_countDone_3 : decode cX5_countDone 3 = .ok (.getfield 17, 3) := by decide +kernel
theorem dX5_countDone_6 : decode cX5_countDone 6 = .ok (.astore_n 2, 1) := by decide +kernel
theorem dX5_countDone_7 : decode cX5_countDone 7 = .ok (.aload_n 2, 1) := by decide +kernel
theorem dX5_countDone_8 : decode cX5_countDone 8 = .ok (.arraylength, 1) := by decide +kernel
theorem dX5_countDone_9 : decode cX5_countDone 9 = .ok (.istore_n 3, 1) := by decide +kernel
theorem dX5_countDone_10 : decode cX5_countDone 10 = .ok (.iconst 0, 1) := by decide +kernel
theorem dX5_countDone_11 : decode cX5_countDone 11 = .ok (.istore 4, 2) := by decide +kernel
theorem dX5_countDone_13 : decode cX5_countDone 13 = .ok (.iload 4, 2) := by decide +kernel
theorem dX5_countDone_15 : decode cX5_countDone 15 = .ok (.iload_n 3, 1) := by decide +kernel
theorem dX5_countDone_16 : decode cX5_countDone 16 = .ok (.if_icmp .ge 27, 3) := by decide +kernel
theorem dX5_countDone_19 : decode cX5_countDone 19 = .ok (.aload_n 2, 1) := by decide +kernel
theorem dX5_countDone_20 : decode cX5_countDone 20 = .ok (.iload 4, 2) := by decide +kernel
theorem dX5_countDone_22 : decode cX5_countDone 22 = .ok (.aaload, 1) := by decide +kernel
theorem dX5_countDone_23 : decode cX5_countDone 23 = .ok (.astore 5, 2) := by decide +kernel
theorem dX5_countDone_25 : decode cX5_countDone 25 = .ok (.aload 5, 2) := by decide +kernel
theorem dX5_countDone_27 : decode cX5_countDone 27 = .ok (.getfield 128, 3) := by decide +kernel
theorem dX5_countDone_30 : decode cX5_countDone 30 = .ok (.iconst 3, 1) := by decide +kernel
theorem dX5_countDone_31 : decode cX5_countDone 31 = .ok (.if_icmp .ne 6, 3) := by decide +kernel
theorem dX5_countDone_34 : decode cX5_countDone 34 = .ok (.iinc 1 1, 3) := by decide +kernel
theorem dX5_countDone_37 : decode cX5_countDone 37 = .ok (.iinc 4 1, 3) := by decide +kernel
theorem dX5_countDone_40 : decode cX5_countDone 40 = .ok (.goto (-27), 3) := by decide +kernel
theorem dX5_countDone_43 : decode cX5_countDone 43 = .ok (.iload_n 1, 1) := by decide +kernel
theorem dX5_countDone_44 : decode cX5_countDone 44 = .ok (.ireturn, 1) := by decide +kernel
theorem dX5_ticksStalled_0 : decode cX5_ticksStalled 0 = .ok (.iconst 0, 1) := by decide +kernel
theorem dX5_ticksStalled_1 : decode cX5_ticksStalled 1 = .ok (.istore_n 1, 1) := by decide +kernel
theorem dX5_ticksStalled_2 : decode cX5_ticksStalled 2 = .ok (.aload_n 0, 1) := by decide +kernel
theorem dX5_ticksStalled_3 : decode cX5_ticksStalled 3 = .ok (.getfield 17, 3) := by decide +kernel
theorem dX5_ticksStalled_6 : decode cX5_ticksStalled 6 = .ok (.astore_n 2, 1) := by decide +kernel
theorem dX5_ticksStalled_7 : decode cX5_ticksStalled 7 = .ok (.aload_n 2, 1) := by decide +kernel
theorem dX5_ticksStalled_8 : decode cX5_ticksStalled 8 = .ok (.arraylength, 1) := by decide +kernel
theorem dX5_ticksStalled_9 : decode cX5_ticksStalled 9 = .ok (.istore_n 3, 1) := by decide +kernel
theorem dX5_ticksStalled_10 : decode cX5_ticksStalled 10 = .ok (.iconst 0, 1) := by decide +kernel
theorem dX5_ticksStalled_11 : decode cX5_ticksStalled 11 = .ok (.istore 4, 2) := by decide +kernel
theorem dX5_ticksStalled_13 : decode cX5_ticksStalled 13 = .ok (.iload 4, 2) := by decide +kernel
theorem dX5_ticksStalled_15 : decode cX5_ticksStalled 15 = .ok (.iload_n 3, 1) := by decide +kernel
theorem dX5_ticksStalled_16 : decode cX5_ticksStalled 16 = .ok (.if_icmp .ge 23, 3) := by decide +kernel
theorem dX5_ticksStalled_19 : decode cX5_ticksStalled 19 = .ok (.aload_n 2, 1) := by decide +kernel
theorem dX5_ticksStalled_20 : decode cX5_ticksStalled 20 = .ok (.iload 4, 2) := by decide +kernel
theorem dX5_ticksStalled_22 : decode cX5_ticksStalled 22 = .ok (.aaload, 1) := by decide +kernel
theorem dX5_ticksStalled_23 : decode cX5_ticksStalled 23 = .ok (.astore 5, 2) := by decide +kernel
theorem dX5_ticksStalled_25 : decode cX5_ticksStalled 25 = .ok (.iload_n 1, 1) := by decide +kernel
theorem dX5_ticksStalled_26 : decode cX5_ticksStalled 26 = .ok (.aload 5, 2) := by decide +kernel
theorem dX5_ticksStalled_28 : decode cX5_ticksStalled 28 = .ok (.getfield 131, 3) := by decide +kernel
theorem dX5_ticksStalled_31 : decode cX5_ticksStalled 31 = .ok (.iadd, 1) := by decide +kernel
theorem dX5_ticksStalled_32 : decode cX5_ticksStalled 32 = .ok (.istore_n 1, 1) := by decide +kernel
theorem dX5_ticksStalled_33 : decode cX5_ticksStalled 33 = .ok (.iinc 4 1, 3) := by decide +kernel
theorem dX5_ticksStalled_36 : decode cX5_ticksStalled 36 = .ok (.goto (-23), 3) := by decide +kernel
theorem dX5_ticksStalled_39 : decode cX5_ticksStalled 39 = .ok (.iload_n 1, 1) := by decide +kernel
theorem dX5_ticksStalled_40 : decode cX5_ticksStalled 40 = .ok (.ireturn, 1) := by decide +kernel
theorem dX5_segmentsCome_0 : decode cX5_segmentsCome 0 = .ok (.iconst 0, 1) := by decide +kernel
theorem dX5_segmentsCome_1 : decode cX5_segmentsCome 1 = .ok (.istore_n 1, 1) := by decide +kernel
theorem dX5_segmentsCome_2 : decode cX5_segmentsCome 2 = .ok (.aload_n 0, 1) := by decide +kernel
theorem dX5_segmentsCome_3 : decode cX5_segmentsCome 3 = .ok (.getfield 17, 3) := by decide +kernel
theorem dX5_segmentsCome_6 : decode cX5_segmentsCome 6 = .ok (.astore_n 2, 1) := by decide +kernel
theorem dX5_segmentsCome_7 : decode cX5_segmentsCome 7 = .ok (.aload_n 2, 1) := by decide +kernel
theorem dX5_segmentsCome_8 : decode cX5_segmentsCome 8 = .ok (.arraylength, 1) := by decide +kernel
theorem dX5_segmentsCome_9 : decode cX5_segmentsCome 9 = .ok (.istore_n 3, 1) := by decide +kernel
theorem dX5_segmentsCome_10 : decode cX5_segmentsCome 10 = .ok (.iconst 0, 1) := by decide +kernel
theorem dX5_segmentsCome_11 : decode cX5_segmentsCome 11 = .ok (.istore 4, 2) := by decide +kernel
theorem dX5_segmentsCome_13 : decode cX5_segmentsCome 13 = .ok (.iload 4, 2) := by decide +kernel
theorem dX5_segmentsCome_15 : decode cX5_segmentsCome 15 = .ok (.iload_n 3, 1) := by decide +kernel
theorem dX5_segmentsCome_16 : decode cX5_segmentsCome 16 = .ok (.if_icmp .ge 23, 3) := by decide +kernel
theorem dX5_segmentsCome_19 : decode cX5_segmentsCome 19 = .ok (.aload_n 2, 1) := by decide +kernel
theorem dX5_segmentsCome_20 : decode cX5_segmentsCome 20 = .ok (.iload 4, 2) := by decide +kernel
theorem dX5_segmentsCome_22 : decode cX5_segmentsCome 22 = .ok (.aaload, 1) := by decide +kernel
theorem dX5_segmentsCome_23 : decode cX5_segmentsCome 23 = .ok (.astore 5, 2) := by decide +kernel
theorem dX5_segmentsCome_25 : decode cX5_segmentsCome 25 = .ok (.iload_n 1, 1) := by decide +kernel
theorem dX5_segmentsCome_26 : decode cX5_segmentsCome 26 = .ok (.aload 5, 2) := by decide +kernel
theorem dX5_segmentsCome_28 : decode cX5_segmentsCome 28 = .ok (.getfield 134, 3) := by decide +kernel
theorem dX5_segmentsCome_31 : decode cX5_segmentsCome 31 = .ok (.iadd, 1) := by decide +kernel
theorem dX5_segmentsCome_32 : decode cX5_segmentsCome 32 = .ok (.istore_n 1, 1) := by decide +kernel
theorem dX5_segmentsCome_33 : decode cX5_segmentsCome 33 = .ok (.iinc 4 1, 3) := by decide +kernel
theorem dX5_segmentsCome_36 : decode cX5_segmentsCome 36 = .ok (.goto (-23), 3) := by decide +kernel
theorem dX5_segmentsCome_39 : decode cX5_segmentsCome 39 = .ok (.iload_n 1, 1) := by decide +kernel
theorem dX5_segmentsCome_40 : decode cX5_segmentsCome 40 = .ok (.ireturn, 1) := by decide +kernel
theorem dX5_addsUp_0 : decode cX5_addsUp 0 = .ok (.iconst 0, 1) := by decide +kernel
theorem dX5_addsUp_1 : decode cX5_addsUp 1 = .ok (.istore_n 1, 1) := by decide +kernel
theorem dX5_addsUp_2 : decode cX5_addsUp 2 = .ok (.aload_n 0, 1) := by decide +kernel
theorem dX5_addsUp_3 : decode cX5_addsUp 3 = .ok (.getfield 17, 3) := by decide +kernel
theorem dX5_addsUp_6 : decode cX5_addsUp 6 = .ok (.astore_n 2, 1) := by decide +kernel
theorem dX5_addsUp_7 : decode cX5_addsUp 7 = .ok (.aload_n 2, 1) := by decide +kernel
theorem dX5_addsUp_8 : decode cX5_addsUp 8 = .ok (.arraylength, 1) := by decide +kernel
theorem dX5_addsUp_9 : decode cX5_addsUp 9 = .ok (.istore_n 3, 1) := by decide +kernel
theorem dX5_addsUp_10 : decode cX5_addsUp 10 = .ok (.iconst 0, 1) := by decide +kernel
theorem dX5_addsUp_11 : decode cX5_addsUp 11 = .ok (.istore 4, 2) := by decide +kernel
theorem dX5_addsUp_13 : decode cX5_addsUp 13 = .ok (.iload 4, 2) := by decide +kernel
theorem dX5_addsUp_15 : decode cX5_addsUp 15 = .ok (.iload_n 3, 1) := by decide +kernel
theorem dX5_addsUp_16 : decode cX5_addsUp 16 = .ok (.if_icmp .ge 33, 3) := by decide +kernel
theorem dX5_addsUp_19 : decode cX5_addsUp 19 = .ok (.aload_n 2, 1) := by decide +kernel
theorem dX5_addsUp_20 : decode cX5_addsUp 20 = .ok (.iload 4, 2) := by decide +kernel
theorem dX5_addsUp_22 : decode cX5_addsUp 22 = .ok (.aaload, 1) := by decide +kernel
theorem dX5_addsUp_23 : decode cX5_addsUp 23 = .ok (.astore 5, 2) := by decide +kernel
theorem dX5_addsUp_25 : decode cX5_addsUp 25 = .ok (.aload 5, 2) := by decide +kernel
theorem dX5_addsUp_27 : decode cX5_addsUp 27 = .ok (.invokevirtual 137, 3) := by decide +kernel
theorem dX5_addsUp_30 : decode cX5_addsUp 30 = .ok (.ifCond .ne 5, 3) := by decide +kernel
theorem dX5_addsUp_33 : decode cX5_addsUp 33 = .ok (.iconst 0, 1) := by decide +kernel
theorem dX5_addsUp_34 : decode cX5_addsUp 34 = .ok (.ireturn, 1) := by decide +kernel
theorem dX5_addsUp_35 : decode cX5_addsUp 35 = .ok (.iload_n 1, 1) := by decide +kernel
theorem dX5_addsUp_36 : decode cX5_addsUp 36 = .ok (.aload 5, 2) := by decide +kernel
theorem dX5_addsUp_38 : decode cX5_addsUp 38 = .ok (.getfield 140, 3) := by decide +kernel
theorem dX5_addsUp_41 : decode cX5_addsUp 41 = .ok (.iadd, 1) := by decide +kernel
theorem dX5_addsUp_42 : decode cX5_addsUp 42 = .ok (.istore_n 1, 1) := by decide +kernel
theorem dX5_addsUp_43 : decode cX5_addsUp 43 = .ok (.iinc 4 1, 3) := by decide +kernel
theorem dX5_addsUp_46 : decode cX5_addsUp 46 = .ok (.goto (-33), 3) := by decide +kernel
theorem dX5_addsUp_49 : decode cX5_addsUp 49 = .ok (.iload_n 1, 1) := by decide +kernel
theorem dX5_addsUp_50 : decode cX5_addsUp 50 = .ok (.aload_n 0, 1) := by decide +kernel
theorem dX5_addsUp_51 : decode cX5_addsUp 51 = .ok (.getfield 54, 3) := by decide +kernel
theorem dX5_addsUp_54 : decode cX5_addsUp 54 = .ok (.if_icmp .ne 7, 3) := by decide +kernel
theorem dX5_addsUp_57 : decode cX5_addsUp 57 = .ok (.iconst 1, 1) := by decide +kernel
theorem dX5_addsUp_58 : decode cX5_addsUp 58 = .ok (.goto 4, 3) := by decide +kernel
theorem dX5_addsUp_61 : decode cX5_addsUp 61 = .ok (.iconst 0, 1) := by decide +kernel
theorem dX5_addsUp_62 : decode cX5_addsUp 62 = .ok (.ireturn, 1) := by decide +kernel
theorem dX6_init_0 : decode cX6_init 0 = .ok (.aload_n 0, 1) := by decide +kernel
theorem dX6_init_1 : decode cX6_init 1 = .ok (.invokespecial 3, 3) := by decide +kernel
theorem dX6_init_4 : decode cX6_init 4 = .ok (.aload_n 0, 1) := by decide +kernel
theorem dX6_init_5 : decode cX6_init 5 = .ok (.iconst 4, 1) := by decide +kernel
theorem dX6_init_6 : decode cX6_init 6 = .ok (.newarray .int, 2) := by decide +kernel
theorem dX6_init_8 : decode cX6_init 8 = .ok (.putfield 9, 3) := by decide +kernel
theorem dX6_init_11 : decode cX6_init 11 = .ok (.aload_n 0, 1) := by decide +kernel
theorem dX6_init_12 : decode cX6_init 12 = .ok (.bipush 120, 2) := by decide +kernel
theorem dX6_init_14 : decode cX6_init 14 = .ok (.newarray .int, 2) := by decide +kernel
theorem dX6_init_16 : decode cX6_init 16 = .ok (.putfield 15, 3) := by decide +kernel
theorem dX6_init_19 : decode cX6_init 19 = .ok (.return_, 1) := by decide +kernel
theorem dX6_clear_0 : decode cX6_clear 0 = .ok (.aload_n 0, 1) := by decide +kernel
theorem dX6_clear_1 : decode cX6_clear 1 = .ok (.getfield 9, 3) := by decide +kernel
theorem dX6_clear_4 : decode cX6_clear 4 = .ok (.invokestatic 18, 3) := by decide +kernel
theorem dX6_clear_7 : decode cX6_clear 7 = .ok (.aload_n 0, 1) := by decide +kernel
theorem dX6_clear_8 : decode cX6_clear 8 = .ok (.getfield 15, 3) := by decide +kernel
theorem dX6_clear_11 : decode cX6_clear 11 = .ok (.invokestatic 18, 3) := by decide +kernel
theorem dX6_clear_14 : decode cX6_clear 14 = .ok (.aload_n 0, 1) := by decide +kernel
theorem dX6_clear_15 : decode cX6_clear 15 = .ok (.lconst 0, 1) := by decide +kernel
theorem dX6_clear_16 : decode cX6_clear 16 = .ok (.putfield 22, 3) := by decide +kernel
theorem dX6_clear_19 : decode cX6_clear 19 = .ok (.aload_n 0, 1) := by decide +kernel
theorem dX6_clear_20 : decode cX6_clear 20 = .ok (.iconst 0, 1) := by decide +kernel
theorem dX6_clear_21 : decode cX6_clear 21 = .ok (.putfield 26, 3) := by decide +kernel
theorem dX6_clear_24 : decode cX6_clear 24 = .ok (.aload_n 0, 1) := by decide +kernel
theorem dX6_clear_25 : decode cX6_clear 25 = .ok (.iconst 0, 1) := by decide +kernel
theorem dX6_clear_26 : decode cX6_clear 26 = .ok (.putfield 30, 3) := by decide +kernel
theorem dX6_clear_29 : decode cX6_clear 29 = .ok (.aload_n 0, 1) := by decide +kernel
theorem dX6_clear_30 : decode cX6_clear 30 = .ok (.iconst 1, 1) := by decide +kernel
theorem dX6_clear_31 : decode cX6_clear 31 = .ok (.putfield 33, 3) := by decide +kernel
theorem dX6_clear_34 : decode cX6_clear 34 = .ok (.aload_n 0, 1) := by decide +kernel
theorem dX6_clear_35 : decode cX6_clear 35 = .ok (.iconst 0, 1) := by decide +kernel
theorem dX6_clear_36 : decode cX6_clear 36 = .ok (.putfield 36, 3) := by decide +kernel
theorem dX6_clear_39 : decode cX6_clear 39 = .ok (.aload_n 0, 1) := by decide +kernel
theorem dX6_clear_40 : decode cX6_clear 40 = .ok (.iconst 0, 1) := by decide +kernel
theorem dX6_clear_41 : decode cX6_clear 41 = .ok (.putfield 39, 3) := by decide +kernel
theorem dX6_clear_44 : decode cX6_clear 44 = .ok (.aload_n 0, 1) := by decide +kernel
theorem dX6_clear_45 : decode cX6_clear 45 = .ok (.iconst 0, 1) := by decide +kernel
theorem dX6_clear_46 : decode cX6_clear 46 = .ok (.putfield 42, 3) := by decide +kernel
theorem dX6_clear_49 : decode cX6_clear 49 = .ok (.return_, 1) := by decide +kernel
theorem dX6_copyFrom_0 : decode cX6_copyFrom 0 = .ok (.aload_n 1, 1) := by decide +kernel
theorem dX6_copyFrom_1 : decode cX6_copyFrom 1 = .ok (.getfield 9, 3) := by decide +kernel
theorem dX6_copyFrom_4 : decode cX6_copyFrom 4 = .ok (.aload_n 0, 1) := by decide +kernel
theorem dX6_copyFrom_5 : decode cX6_copyFrom 5 = .ok (.getfield 9, 3) := by decide +kernel
theorem dX6_copyFrom_8 : decode cX6_copyFrom 8 = .ok (.invokestatic 46, 3) := by decide +kernel
theorem dX6_copyFrom_11 : decode cX6_copyFrom 11 = .ok (.aload_n 1, 1) := by decide +kernel
theorem dX6_copyFrom_12 : decode cX6_copyFrom 12 = .ok (.getfield 15, 3) := by decide +kernel
theorem dX6_copyFrom_15 : decode cX6_copyFrom 15 = .ok (.aload_n 0, 1) := by decide +kernel
theorem dX6_copyFrom_16 : decode cX6_copyFrom 16 = .ok (.getfield 15, 3) := by decide +kernel
theorem dX6_copyFrom_19 : decode cX6_copyFrom 19 = .ok (.invokestatic 46, 3) := by decide +kernel
theorem dX6_copyFrom_22 : decode cX6_copyFrom 22 = .ok (.aload_n 0, 1) := by decide +kernel
theorem dX6_copyFrom_23 : decode cX6_copyFrom 23 = .ok (.aload_n 1, 1) := by decide +kernel
theorem dX6_copyFrom_24 : decode cX6_copyFrom 24 = .ok (.getfield 22, 3) := by decide +kernel
theorem dX6_copyFrom_27 : decode cX6_copyFrom 27 = .ok (.putfield 22, 3) := by decide +kernel
theorem dX6_copyFrom_30 : decode cX6_copyFrom 30 = .ok (.aload_n 0, 1) := by decide +kernel
theorem dX6_copyFrom_31 : decode cX6_copyFrom 31 = .ok (.aload_n 1, 1) := by decide +kernel
theorem dX6_copyFrom_32 : decode cX6_copyFrom 32 = .ok (.getfield 26, 3) := by decide +kernel
theorem dX6_copyFrom_35 : decode cX6_copyFrom 35 = .ok (.putfield 26, 3) := by decide +kernel
theorem dX6_copyFrom_38 : decode cX6_copyFrom 38 = .ok (.aload_n 0, 1) := by decide +kernel
theorem dX6_copyFrom_39 : decode cX6_copyFrom 39 = .ok (.aload_n 1, 1) := by decide +kernel
theorem dX6_copyFrom_40 : decode cX6_copyFrom 40 = .ok (.getfield 30, 3) := by decide +kernel
theorem dX6_copyFrom_43 : decode cX6_copyFrom 43 = .ok (.putfield 30, 3) := by decide +kernel
theorem dX6_copyFrom_46 : decode cX6_copyFrom 46 = .ok (.aload_n 0, 1) := by decide +kernel
theorem dX6_copyFrom_47 : decode cX6_copyFrom 47 = .ok (.aload_n 1, 1) := by decide +kernel
theorem dX6_copyFrom_48 : decode cX6_copyFrom 48 = .ok (.getfield 33, 3) := by decide +kernel
theorem dX6_copyFrom_51 : decode cX6_copyFrom 51 = .ok (.putfield 33, 3) := by decide +kernel
theorem dX6_copyFrom_54 : decode cX6_copyFrom 54 = .ok (.aload_n 0, 1) := by decide +kernel
theorem dX6_copyFrom_55 : decode cX6_copyFrom 55 = .ok (.aload_n 1, 1) := by decide +kernel
theorem dX6_copyFrom_56 : decode cX6_copyFrom 56 = .ok (.getfield 36, 3) := by decide +kernel
theorem dX6_copyFrom_59 : decode cX6_copyFrom 59 = .ok (.putfield 36, 3) := by decide +kernel
theorem dX6_copyFrom_62 : decode cX6_copyFrom 62 = .ok (.aload_n 0, 1) := by decide +kernel
theorem dX6_copyFrom_63 : decode cX6_copyFrom 63 = .ok (.aload_n 1, 1) := by decide +kernel
theorem dX6_copyFrom_64 : decode cX6_copyFrom 64 = .ok (.getfield 39, 3) := by decide +kernel
theorem dX6_copyFrom_67 : decode cX6_copyFrom 67 = .ok (.putfield 39, 3) := by decide +kernel
theorem dX6_copyFrom_70 : decode cX6_copyFrom 70 = .ok (.aload_n 0, 1) := by decide +kernel
theorem dX6_copyFrom_71 : decode cX6_copyFrom 71 = .ok (.aload_n 1, 1) := by decide +kernel
theorem dX6_copyFrom_72 : decode cX6_copyFrom 72 = .ok (.getfield 42, 3) := by decide +kernel
theorem dX6_copyFrom_75 : decode cX6_copyFrom 75 = .ok (.putfield 42, 3) := by decide +kernel
theorem dX6_copyFrom_78 : decode cX6_copyFrom 78 = .ok (.return_, 1) := by decide +kernel
theorem dX6_setSegment_0 : decode cX6_setSegment 0 = .ok (.iconst 0, 1) := by decide +kernel
theorem dX6_setSegment_1 : decode cX6_setSegment 1 = .ok (.istore_n 3, 1) := by decide +kernel
theorem dX6_setSegment_2 : decode cX6_setSegment 2 = .ok (.iload_n 3, 1) := by decide +kernel
theorem dX6_setSegment_3 : decode cX6_setSegment 3 = .ok (.aload_n 0, 1) := by decide +kernel
theorem dX6_setSegment_4 : decode cX6_setSegment 4 = .ok (.getfield 9, 3) := by decide +kernel
theorem dX6_setSegment_7 : decode cX6_setSegment 7 = .ok (.arraylength, 1) := by decide +kernel
theorem dX6_setSegment_8 : decode cX6_setSegment 8 = .ok (.if_icmp .ge 63, 3) := by decide +kernel
theorem dX6_setSegment_11 : decode cX6_setSegment 11 = .ok (.iload_n 1, 1) := by decide +kernel
theorem dX6_setSegment_12 : decode cX6_setSegment 12 = .ok (.iconst 4, 1) := by decide +kernel
theorem dX6_setSegment_13 : decode cX6_setSegment 13 = .ok (.imul, 1) := by decide +kernel
theorem dX6_setSegment_14 : decode cX6_setSegment 14 = .ok (.iload_n 3, 1) := by decide +kernel
theorem dX6_setSegment_15 : decode cX6_setSegment 15 = .ok (.iadd, 1) := by decide +kernel
theorem dX6_setSegment_16 : decode cX6_setSegment 16 = .ok (.istore 4, 2) := by decide +kernel
theorem dX6_setSegment_18 : decode cX6_setSegment 18 = .ok (.iload 4, 2) := by decide +kernel
theorem dX6_setSegment_20 : decode cX6_setSegment 20 = .ok (.ifCond .lt 45, 3) := by decide +kernel
theorem dX6_setSegment_23 : decode cX6_setSegment 23 = .ok (.iload 4, 2) := by decide +kernel
theorem dX6_setSegment_25 : decode cX6_setSegment 25 = .ok (.aload_n 0, 1) := by decide +kernel
theorem dX6_setSegment_26 : decode cX6_setSegment 26 = .ok (.getfield 15, 3) := by decide +kernel
theorem dX6_setSegment_29 : decode cX6_setSegment 29 = .ok (.arraylength, 1) := by decide +kernel
theorem dX6_setSegment_30 : decode cX6_setSegment 30 = .ok (.if_icmp .ge 35, 3) := by decide +kernel
theorem dX6_setSegment_33 : decode cX6_setSegment 33 = .ok (.aload_n 0, 1) := by decide +kernel
theorem dX6_setSegment_34 : decode cX6_setSegment 34 = .ok (.getfield 9, 3) := by decide +kernel
theorem dX6_setSegment_37 : decode cX6_setSegment 37 = .ok (.iload_n 3, 1) := by decide +kernel
theorem dX6_setSegment_38 : decode cX6_setSegment 38 = .ok (.iaload, 1) := by decide +kernel
theorem dX6_setSegment_39 : decode cX6_setSegment 39 = .ok (.iload_n 2, 1) := by decide +kernel
theorem dX6_setSegment_40 : decode cX6_setSegment 40 = .ok (.imul, 1) := by decide +kernel
theorem dX6_setSegment_41 : decode cX6_setSegment 41 = .ok (.bipush 100, 2) := by decide +kernel
theorem dX6_setSegment_43 : decode cX6_setSegment 43 = .ok (.idiv, 1) := by decide +kernel
theorem dX6_setSegment_44 : decode cX6_setSegment 44 = .ok (.istore 5, 2) := by decide +kernel
theorem dX6_setSegment_46 : decode cX6_setSegment 46 = .ok (.aload_n 0, 1) := by decide +kernel
theorem dX6_setSegment_47 : decode cX6_setSegment 47 = .ok (.getfield 15, 3) := by decide +kernel
theorem dX6_setSegment_50 : decode cX6_setSegment 50 = .ok (.iload 4, 2) := by decide +kernel
theorem dX6_setSegment_52 : decode cX6_setSegment 52 = .ok (.iload 5, 2) := by decide +kernel
theorem dX6_setSegment_54 : decode cX6_setSegment 54 = .ok (.iconst 1, 1) := by decide +kernel
theorem dX6_setSegment_55 : decode cX6_setSegment 55 = .ok (.if_icmp .ge 7, 3) := by decide +kernel
theorem dX6_setSegment_58 : decode cX6_setSegment 58 = .ok (.iconst 1, 1) := by decide +kernel
theorem dX6_setSegment_59 : decode cX6_setSegment 59 = .ok (.goto 5, 3) := by decide +kernel
theorem dX6_setSegment_62 : decode cX6_setSegment 62 = .ok (.iload 5, 2) := by decide +kernel
theorem dX6_setSegment_64 : decode cX6_setSegment 64 = .ok (.iastore, 1) := by decide +kernel
theorem dX6_setSegment_65 : decode cX6_setSegment 65 = .ok (.iinc 3 1, 3) := by decide +kernel
theorem dX6_setSegment_68 : decode cX6_setSegment 68 = .ok (.goto (-66), 3) := by decide +kernel
theorem dX6_setSegment_71 : decode cX6_setSegment 71 = .ok (.return_, 1) := by decide +kernel
theorem dX6_sizeOfSegment_0 : decode cX6_sizeOfSegment 0 = .ok (.iload_n 1, 1) := by decide +kernel
theorem dX6_sizeOfSegment_1 : decode cX6_sizeOfSegment 1 = .ok (.iconst 4, 1) := by decide +kernel
theorem dX6_sizeOfSegment_2 : decode cX6_sizeOfSegment 2 = .ok (.imul, 1) := by decide +kernel
theorem dX6_sizeOfSegment_3 : decode cX6_sizeOfSegment 3 = .ok (.iload_n 2, 1) := by decide +kernel
theorem dX6_sizeOfSegment_4 : decode cX6_sizeOfSegment 4 = .ok (.iadd, 1) := by decide +kernel
theorem dX6_sizeOfSegment_5 : decode cX6_sizeOfSegment 5 = .ok (.istore_n 3, 1) := by decide +kernel
theorem dX6_sizeOfSegment_6 : decode cX6_sizeOfSegment 6 = .ok (.iload_n 3, 1) := by decide +kernel
theorem dX6_sizeOfSegment_7 : decode cX6_sizeOfSegment 7 = .ok (.ifCond .lt 21, 3) := by decide +kernel
theorem dX6_sizeOfSegment_10 : decode cX6_sizeOfSegment 10 = .ok (.iload_n 3, 1) := by decide +kernel
theorem dX6_sizeOfSegment_11 : decode cX6_sizeOfSegment 11 = .ok (.aload_n 0, 1) := by decide +kernel
theorem dX6_sizeOfSegment_12 : decode cX6_sizeOfSegment 12 = .ok (.getfield 15, 3) := by decide +kernel
theorem dX6_sizeOfSegment_15 : decode cX6_sizeOfSegment 15 = .ok (.arraylength, 1) := by decide +kernel
theorem dX6_sizeOfSegment_16 : decode cX6_sizeOfSegment 16 = .ok (.if_icmp .ge 12, 3) := by decide +kernel
theorem dX6_sizeOfSegment_19 : decode cX6_sizeOfSegment 19 = .ok (.aload_n 0, 1) := by decide +kernel
theorem dX6_sizeOfSegment_20 : decode cX6_sizeOfSegment 20 = .ok (.getfield 15, 3) := by decide +kernel
theorem dX6_sizeOfSegment_23 : decode cX6_sizeOfSegment 23 = .ok (.iload_n 3, 1) := by decide +kernel
theorem dX6_sizeOfSegment_24 : decode cX6_sizeOfSegment 24 = .ok (.iaload, 1) := by decide +kernel
theorem dX6_sizeOfSegment_25 : decode cX6_sizeOfSegment 25 = .ok (.goto 4, 3) := by decide +kernel
theorem dX6_sizeOfSegment_28 : decode cX6_sizeOfSegment 28 = .ok (.iconst 0, 1) := by decide +kernel
theorem dX6_sizeOfSegment_29 : decode cX6_sizeOfSegment 29 = .ok (.ireturn, 1) := by decide +kernel
theorem dX6_greatestWithin_0 : decode cX6_greatestWithin 0 = .ok (.aload_n 0, 1) := by decide +kernel
theorem dX6_greatestWithin_1 : decode cX6_greatestWithin 1 = .ok (.getfield 36, 3) := by decide +kernel
theorem dX6_greatestWithin_4 : decode cX6_greatestWithin 4 = .ok (.iconst 1, 1) := by decide +kernel
theorem dX6_greatestWithin_5 : decode cX6_greatestWithin 5 = .ok (.isub, 1) := by decide +kernel
theorem dX6_greatestWithin_6 : decode cX6_greatestWithin 6 = .ok (.istore_n 3, 1) := by decide +kernel
theorem dX6_greatestWithin_7 : decode cX6_greatestWithin 7 = .ok (.iload_n 3, 1) := by decide +kernel
theorem dX6_greatestWithin_8 : decode cX6_greatestWithin 8 = .ok (.ifCond .le 47, 3) := by decide +kernel
theorem dX6_greatestWithin_11 : decode cX6_greatestWithin 11 = .ok (.iload_n 1, 1) := by decide +kernel
theorem dX6_greatestWithin_12 : decode cX6_greatestWithin 12 = .ok (.iconst 4, 1) := by decide +kernel
theorem dX6_greatestWithin_13 : decode cX6_greatestWithin 13 = .ok (.imul, 1) := by decide +kernel
theorem dX6_greatestWithin_14 : decode cX6_greatestWithin 14 = .ok (.iload_n 3, 1) := by decide +kernel
theorem dX6_greatestWithin_15 : decode cX6_greatestWithin 15 = .ok (.iadd, 1) := by decide +kernel
theorem dX6_greatestWithin_16 : decode cX6_greatestWithin 16 = .ok (.istore 4, 2) := by decide +kernel
theorem dX6_greatestWithin_18 : decode cX6_greatestWithin 18 = .ok (.iload 4, 2) := by decide +kernel
theorem dX6_greatestWithin_20 : decode cX6_greatestWithin 20 = .ok (.ifCond .lt 29, 3) := by decide +kernel
theorem dX6_greatestWithin_23 : decode cX6_greatestWithin 23 = .ok (.iload 4, 2) := by decide +kernel
theorem dX6_greatestWithin_25 : decode cX6_greatestWithin 25 = .ok (.aload_n 0, 1) := by decide +kernel
theorem dX6_greatestWithin_26 : decode cX6_greatestWithin 26 = .ok (.getfield 15, 3) := by decide +kernel
theorem dX6_greatestWithin_29 : decode cX6_greatestWithin 29 = .ok (.arraylength, 1) := by decide +kernel
theorem dX6_greatestWithin_30 : decode cX6_greatestWithin 30 = .ok (.if_icmp .ge 19, 3) := by decide +kernel
theorem dX6_greatestWithin_33 : decode cX6_greatestWithin 33 = .ok (.aload_n 0, 1) := by decide +kernel
theorem dX6_greatestWithin_34 : decode cX6_greatestWithin 34 = .ok (.getfield 15, 3) := by decide +kernel
theorem dX6_greatestWithin_37 : decode cX6_greatestWithin 37 = .ok (.iload 4, 2) := by decide +kernel
theorem dX6_greatestWithin_39 : decode cX6_greatestWithin 39 = .ok (.iaload, 1) := by decide +kernel
theorem dX6_greatestWithin_40 : decode cX6_greatestWithin 40 = .ok (.bipush 100, 2) := by decide +kernel
theorem dX6_greatestWithin_42 : decode cX6_greatestWithin 42 = .ok (.imul, 1) := by decide +kernel
theorem dX6_greatestWithin_43 : decode cX6_greatestWithin 43 = .ok (.iload_n 2, 1) := by decide +kernel
theorem dX6_greatestWithin_44 : decode cX6_greatestWithin 44 = .ok (.if_icmp .gt 5, 3) := by decide +kernel
theorem dX6_greatestWithin_47 : decode cX6_greatestWithin 47 = .ok (.iload_n 3, 1) := by decide +kernel
theorem dX6_greatestWithin_48 : decode cX6_greatestWithin 48 = .ok (.ireturn, 1) := by decide +kernel
theorem dX6_greatestWithin_49 : decode cX6_greatestWithin 49 = .ok (.iinc 3 (-1), 3) := by decide +kernel
theorem dX6_greatestWithin_52 : decode cX6_greatestWithin 52 = .ok (.goto (-45), 3) := by decide +kernel
theorem dX6_greatestWithin_55 : decode cX6_greatestWithin 55 = .ok (.iconst 0, 1) := by decide +kernel
theorem dX6_greatestWithin_56 : decode cX6_greatestWithin 56 = .ok (.ireturn, 1) := by decide +kernel
theorem dX7_init_0 : decode cX7_init 0 = .ok (.aload_n 0, 1) := by decide +kernel
theorem dX7_init_1 : decode cX7_init 1 = .ok (.invokespecial 1, 3) := by decide +kernel
theorem dX7_init_4 : decode cX7_init 4 = .ok (.aload_n 0, 1) := by decide +kernel
theorem dX7_init_5 : decode cX7_init 5 = .ok (.new 7, 3) := by decide +kernel
theorem dX7_init_8 : decode cX7_init 8 = .ok (.dup, 1) := by decide +kernel
theorem dX7_init_9 : decode cX7_init 9 = .ok (.invokespecial 9, 3) := by decide +kernel
theorem dX7_init_12 : decode cX7_init 12 = .ok (.putfield 10, 3) := by decide +kernel
theorem dX7_init_15 : decode cX7_init 15 = .ok (.aload_n 0, 1) := by decide +kernel
theorem dX7_init_16 : decode cX7_init 16 = .ok (.new 16, 3) := by decide +kernel
theorem dX7_init_19 : decode cX7_init 19 = .ok (.dup, 1) := by decide +kernel
theorem dX7_init_20 : decode cX7_init 20 = .ok (.invokespecial 18, 3) := by decide +kernel
theorem dX7_init_23 : decode cX7_init 23 = .ok (.putfield 19, 3) := by decide +kernel
theorem dX7_init_26 : decode cX7_init 26 = .ok (.aload_n 0, 1) := by decide +kernel
theorem dX7_init_27 : decode cX7_init 27 = .ok (.new 23, 3) := by decide +kernel
theorem dX7_init_30 : decode cX7_init 30 = .ok (.dup, 1) := by decide +kernel
theorem dX7_init_31 : decode cX7_init 31 = .ok (.aload_n 0, 1) := by decide +kernel
theorem dX7_init_32 : decode cX7_init 32 = .ok (.getfield 19, 3) := by decide +kernel
theorem dX7_init_35 : decode cX7_init 35 = .ok (.invokespecial 25, 3) := by decide +kernel
theorem dX7_init_38 : decode cX7_init 38 = .ok (.putfield 28, 3) := by decide +kernel
theorem dX7_init_41 : decode cX7_init 41 = .ok (.aload_n 0, 1) := by decide +kernel
theorem dX7_init_42 : decode cX7_init 42 = .ok (.new 32, 3) := by decide +kernel
theorem dX7_init_45 : decode cX7_init 45 = .ok (.dup, 1) := by decide +kernel
theorem dX7_init_46 : decode cX7_init 46 = .ok (.aload_n 0, 1) := by decide +kernel
theorem dX7_init_47 : decode cX7_init 47 = .ok (.getfield 28, 3) := by decide +kernel
theorem dX7_init_50 : decode cX7_init 50 = .ok (.invokespecial 34, 3) := by decide +kernel
theorem dX7_init_53 : decode cX7_init 53 = .ok (.putfield 37, 3) := by decide +kernel
theorem dX7_init_56 : decode cX7_init 56 = .ok (.aload_n 0, 1) := by decide +kernel
theorem dX7_init_57 : decode cX7_init 57 = .ok (.new 41, 3) := by decide +kernel
theorem dX7_init_60 : decode cX7_init 60 = .ok (.dup, 1) := by decide +kernel
theorem dX7_init_61 : decode cX7_init 61 = .ok (.aload_n 0, 1) := by decide +kernel
theorem dX7_init_62 : decode cX7_init 62 = .ok (.getfield 19, 3) := by decide +kernel
theorem dX7_init_65 : decode cX7_init 65 = .ok (.invokespecial 43, 3) := by decide +kernel
theorem dX7_init_68 : decode cX7_init 68 = .ok (.putfield 44, 3) := by decide +kernel
theorem dX7_init_71 : decode cX7_init 71 = .ok (.aload_n 0, 1) := by decide +kernel
theorem dX7_init_72 : decode cX7_init 72 = .ok (.iconst 2, 1) := by decide +kernel
theorem dX7_init_73 : decode cX7_init 73 = .ok (.anewarray 23, 3) := by decide +kernel
theorem dX7_init_76 : decode cX7_init 76 = .ok (.putfield 48, 3) := by decide +kernel
theorem dX7_init_79 : decode cX7_init 79 = .ok (.iconst 0, 1) := by decide +kernel
theorem dX7_init_80 : decode cX7_init 80 = .ok (.istore_n 1, 1) := by decide +kernel
theorem dX7_init_81 : decode cX7_init 81 = .ok (.iload_n 1, 1) := by decide +kernel
theorem dX7_init_82 : decode cX7_init 82 = .ok (.aload_n 0, 1) := by decide +kernel
theorem dX7_init_83 : decode cX7_init 83 = .ok (.getfield 48, 3) := by decide +kernel
theorem dX7_init_86 : decode cX7_init 86 = .ok (.arraylength, 1) := by decide +kernel
theorem dX7_init_87 : decode cX7_init 87 = .ok (.if_icmp .ge 26, 3) := by decide +kernel
theorem dX7_init_90 : decode cX7_init 90 = .ok (.aload_n 0, 1) := by decide +kernel
theorem dX7_init_91 : decode cX7_init 91 = .ok (.getfield 48, 3) := by decide +kernel
theorem dX7_init_94 : decode cX7_init 94 = .ok (.iload_n 1, 1) := by decide +kernel
theorem dX7_init_95 : decode cX7_init 95 = .ok (.new 23, 3) := by decide +kernel
theorem dX7_init_98 : decode cX7_init 98 = .ok (.dup, 1) := by decide +kernel
theorem dX7_init_99 : decode cX7_init 99 = .ok (.aload_n 0, 1) := by decide +kernel
theorem dX7_init_100 : decode cX7_init 100 = .ok (.getfield 19, 3) := by decide +kernel
theorem dX7_init_103 : decode cX7_init 103 = .ok (.invokespecial 25, 3) := by decide +kernel
theorem dX7_init_106 : decode cX7_init 106 = .ok (.aastore, 1) := by decide +kernel
theorem dX7_init_107 : decode cX7_init 107 = .ok (.iinc 1 1, 3) := by decide +kernel
theorem dX7_init_110 : decode cX7_init 110 = .ok (.goto (-29), 3) := by decide +kernel
theorem dX7_init_113 : decode cX7_init 113 = .ok (.aload_n 0, 1) := by decide +kernel
theorem dX7_init_114 : decode cX7_init 114 = .ok (.iconst 2, 1) := by decide +kernel
theorem dX7_init_115 : decode cX7_init 115 = .ok (.newarray .boolean, 2) := by decide +kernel
theorem dX7_init_117 : decode cX7_init 117 = .ok (.putfield 52, 3) := by decide +kernel
theorem dX7_init_120 : decode cX7_init 120 = .ok (.aload_n 0, 1) := by decide +kernel
theorem dX7_init_121 : decode cX7_init 121 = .ok (.getfield 28, 3) := by decide +kernel
theorem dX7_init_124 : decode cX7_init 124 = .ok (.invokevirtual 56, 3) := by decide +kernel
theorem dX7_init_127 : decode cX7_init 127 = .ok (.return_, 1) := by decide +kernel
theorem dX7_append_0 : decode cX7_append 0 = .ok (.aload_n 0, 1) := by decide +kernel
theorem dX7_append_1 : decode cX7_append 1 = .ok (.getfield 10, 3) := by decide +kernel
theorem dX7_append_4 : decode cX7_append 4 = .ok (.invokevirtual 59, 3) := by decide +kernel
theorem dX7_append_7 : decode cX7_append 7 = .ok (.ifCond .ne 5, 3) := by decide +kernel
theorem dX7_append_10 : decode cX7_append 10 = .ok (.iconst (-1), 1) := by decide +kernel
theorem dX7_append_11 : decode cX7_append 11 = .ok (.ireturn, 1) := by decide +kernel
theorem dX7_append_12 : decode cX7_append 12 = .ok (.aload_n 0, 1) := by decide +kernel
theorem dX7_append_13 : decode cX7_append 13 = .ok (.getfield 10, 3) := by decide +kernel
theorem dX7_append_16 : decode cX7_append 16 = .ok (.iload_n 1, 1) := by decide +kernel
theorem dX7_append_17 : decode cX7_append 17 = .ok (.invokevirtual 63, 3) := by decide +kernel
theorem dX7_append_20 : decode cX7_append 20 = .ok (.aload_n 0, 1) := by decide +kernel
theorem dX7_append_21 : decode cX7_append 21 = .ok (.getfield 10, 3) := by decide +kernel
theorem dX7_append_24 : decode cX7_append 24 = .ok (.iload_n 2, 1) := by decide +kernel
theorem dX7_append_25 : decode cX7_append 25 = .ok (.invokevirtual 63, 3) := by decide +kernel
theorem dX7_append_28 : decode cX7_append 28 = .ok (.aload_n 0, 1) := by decide +kernel
theorem dX7_append_29 : decode cX7_append 29 = .ok (.getfield 10, 3) := by decide +kernel
theorem dX7_append_32 : decode cX7_append 32 = .ok (.iload_n 3, 1) := by decide +kernel
theorem dX7_append_33 : decode cX7_append 33 = .ok (.invokevirtual 63, 3) := by decide +kernel
theorem dX7_append_36 : decode cX7_append 36 = .ok (.aload_n 0, 1) := by decide +kernel
theorem dX7_append_37 : decode cX7_append 37 = .ok (.getfield 10, 3) := by decide +kernel
theorem dX7_append_40 : decode cX7_append 40 = .ok (.iload 4, 2) := by decide +kernel
theorem dX7_append_42 : decode cX7_append 42 = .ok (.invokevirtual 63, 3) := by decide +kernel
theorem dX7_append_45 : decode cX7_append 45 = .ok (.aload_n 0, 1) := by decide +kernel
theorem dX7_append_46 : decode cX7_append 46 = .ok (.getfield 10, 3) := by decide +kernel
theorem dX7_append_49 : decode cX7_append 49 = .ok (.iload 5, 2) := by decide +kernel
theorem dX7_append_51 : decode cX7_append 51 = .ok (.invokevirtual 63, 3) := by decide +kernel
theorem dX7_append_54 : decode cX7_append 54 = .ok (.aload_n 0, 1) := by decide +kernel
theorem dX7_append_55 : decode cX7_append 55 = .ok (.getfield 10, 3) := by decide +kernel
theorem dX7_append_58 : decode cX7_append 58 = .ok (.getfield 67, 3) := by decide +kernel
theorem dX7_append_61 : decode cX7_append 61 = .ok (.ireturn, 1) := by decide +kernel
theorem dX7_parse_0 : decode cX7_parse 0 = .ok (.iload_n 1, 1) := by decide +kernel
theorem dX7_parse_1 : decode cX7_parse 1 = .ok (.ifCond .lt 14, 3) := by decide +kernel
theorem dX7_parse_4 : decode cX7_parse 4 = .ok (.iload_n 1, 1) := by decide +kernel
theorem dX7_parse_5 : decode cX7_parse 5 = .ok (.aload_n 0, 1) := by decide +kernel
theorem dX7_parse_6 : decode cX7_parse 6 = .ok (.getfield 10, 3) := by decide +kernel
theorem dX7_parse_9 : decode cX7_parse 9 = .ok (.getfield 67, 3) := by decide +kernel
theorem dX7_parse_12 : decode cX7_parse 12 = .ok (.if_icmp .le 11, 3) := by decide +kernel
theorem dX7_parse_15 : decode cX7_parse 15 = .ok (.new 71, 3) := by decide +kernel
theorem dX7_parse_18 : decode cX7_parse 18 = .ok (.dup, 1) := by decide +kernel
theorem dX7_parse_19 : decode cX7_parse 19 = .ok (.invokespecial 73, 3) := by decide +kernel
theorem dX7_parse_22 : decode cX7_parse 22 = .ok (.athrow, 1) := by decide +kernel
theorem dX7_parse_23 : decode cX7_parse 23 = .ok (.aload_n 0, 1) := by decide +kernel
theorem dX7_parse_24 : decode cX7_parse 24 = .ok (.getfield 10, 3) := by decide +kernel
theorem dX7_parse_27 : decode cX7_parse 27 = .ok (.iload_n 1, 1) := by decide +kernel
theorem dX7_parse_28 : decode cX7_parse 28 = .ok (.invokevirtual 74, 3) := by decide +kernel
theorem dX7_parse_31 : decode cX7_parse 31 = .ok (.istore_n 2, 1) := by decide +kernel
theorem dX7_parse_32 : decode cX7_parse 32 = .ok (.iload_n 2, 1) := by decide +kernel
theorem dX7_parse_33 : decode cX7_parse 33 = .ok (.ifCond .ne 55, 3) := by decide +kernel
theorem dX7_parse_36 : decode cX7_parse 36 = .ok (.aload_n 0, 1) := by decide +kernel
theorem dX7_parse_37 : decode cX7_parse 37 = .ok (.getfield 19, 3) := by decide +kernel
theorem dX7_parse_40 : decode cX7_parse 40 = .ok (.aload_n 0, 1) := by decide +kernel
theorem dX7_parse_41 : decode cX7_parse 41 = .ok (.getfield 10, 3) := by decide +kernel
theorem dX7_parse_44 : decode cX7_parse 44 = .ok (.getfield 78, 3) := by decide +kernel
theorem dX7_parse_47 : decode cX7_parse 47 = .ok (.invokevirtual 81, 3) := by decide +kernel
theorem dX7_parse_50 : decode cX7_parse 50 = .ok (.aload_n 0, 1) := by decide +kernel
theorem dX7_parse_51 : decode cX7_parse 51 = .ok (.getfield 28, 3) := by decide +kernel
theorem dX7_parse_54 : decode cX7_parse 54 = .ok (.invokevirtual 56, 3) := by decide +kernel
theorem dX7_parse_57 : decode cX7_parse 57 = .ok (.aload_n 0, 1) := by decide +kernel
theorem dX7_parse_58 : decode cX7_parse 58 = .ok (.getfield 44, 3) := by decide +kernel
theorem dX7_parse_61 : decode cX7_parse 61 = .ok (.invokevirtual 84, 3) := by decide +kernel
theorem dX7_parse_64 : decode cX7_parse 64 = .ok (.iconst 0, 1) := by decide +kernel
theorem dX7_parse_65 : decode cX7_parse 65 = .ok (.istore_n 3, 1) := by decide +kernel
theorem dX7_parse_66 : decode cX7_parse 66 = .ok (.iload_n 3, 1) := by decide +kernel
theorem dX7_parse_67 : decode cX7_parse 67 = .ok (.aload_n 0, 1) := by decide +kernel
theorem dX7_parse_68 : decode cX7_parse 68 = .ok (.getfield 52, 3) := by decide +kernel
theorem dX7_parse_71 : decode cX7_parse 71 = .ok (.arraylength, 1) := by decide +kernel
theorem dX7_parse_72 : decode cX7_parse 72 = .ok (.if_icmp .ge 16, 3) := by decide +kernel
theorem dX7_parse_75 : decode cX7_parse 75 = .ok (.aload_n 0, 1) := by decide +kernel
theorem dX7_parse_76 : decode cX7_parse 76 = .ok (.getfield 52, 3) := by decide +kernel
theorem dX7_parse_79 : decode cX7_parse 79 = .ok (.iload_n 3, 1) := by decide +kernel
theorem dX7_parse_80 : decode cX7_parse 80 = .ok (.iconst 0, 1) := by decide +kernel
theorem dX7_parse_81 : decode cX7_parse 81 = .ok (.bastore, 1) := by decide +kernel
theorem dX7_parse_82 : decode cX7_parse 82 = .ok (.iinc 3 1, 3) := by decide +kernel
theorem dX7_parse_85 : decode cX7_parse 85 = .ok (.goto (-19), 3) := by decide +kernel
theorem dX7_parse_88 : decode cX7_parse 88 = .ok (.iload_n 2, 1) := by decide +kernel
theorem dX7_parse_89 : decode cX7_parse 89 = .ok (.ireturn, 1) := by decide +kernel
theorem dX7_errorPosition_0 : decode cX7_errorPosition 0 = .ok (.aload_n 0, 1) := by decide +kernel
theorem dX7_errorPosition_1 : decode cX7_errorPosition 1 = .ok (.getfield 10, 3) := by decide +kernel
theorem dX7_errorPosition_4 : decode cX7_errorPosition 4 = .ok (.getfield 87, 3) := by decide +kernel
theorem dX7_errorPosition_7 : decode cX7_errorPosition 7 = .ok (.ireturn, 1) := by decide +kernel
theorem dX7_size_0 : decode cX7_size 0 = .ok (.iload_n 1, 1) := by decide +kernel
theorem dX7_size_1 : decode cX7_size 1 = .ok (.tableswitch 147 0 10 #[59, 67, 75, 83, 91, 99, 107, 115, 123, 131, 139], 59) := by decide +kernel
theorem dX7_size_60 : decode cX7_size 60 = .ok (.aload_n 0, 1) := by decide +kernel
theorem dX7_size_61 : decode cX7_size 61 = .ok (.getfield 19, 3) := by decide +kernel
theorem dX7_size_64 : decode cX7_size 64 = .ok (.getfield 90, 3) := by decide +kernel
theorem dX7_size_67 : decode cX7_size 67 = .ok (.ireturn, 1) := by decide +kernel
theorem dX7_size_68 : decode cX7_size 68 = .ok (.aload_n 0, 1) := by decide +kernel
theorem dX7_size_69 : decode cX7_size 69 = .ok (.getfield 19, 3) := by decide +kernel
theorem dX7_size_72 : decode cX7_size 72 = .ok (.getfield 93, 3) := by decide +kernel
theorem dX7_size_75 : decode cX7_size 75 = .ok (.ireturn, 1) := by decide +kernel
theorem dX7_size_76 : decode cX7_size 76 = .ok (.aload_n 0, 1) := by decide +kernel
theorem dX7_size_77 : decode cX7_size 77 = .ok (.getfield 19, 3) := by decide +kernel
theorem dX7_size_80 : decode cX7_size 80 = .ok (.getfield 96, 3) := by decide +kernel
theorem dX7_size_83 : decode cX7_size 83 = .ok (.ireturn, 1) := by decide +kernel
theorem dX7_size_84 : decode cX7_size 84 = .ok (.aload_n 0, 1) := by decide +kernel
theorem dX7_size_85 : decode cX7_size 85 = .ok (.getfield 19, 3) := by decide +kernel
theorem dX7_size_88 : decode cX7_size 88 = .ok (.getfield 99, 3) := by decide +kernel
theorem dX7_size_91 : decode cX7_size 91 = .ok (.ireturn, 1) := by decide +kernel
theorem dX7_size_92 : decode cX7_size 92 = .ok (.aload_n 0, 1) := by decide +kernel
theorem dX7_size_93 : decode cX7_size 93 = .ok (.getfield 19, 3) := by decide +kernel
theorem dX7_size_96 : decode cX7_size 96 = .ok (.getfield 102, 3) := by decide +kernel
theorem dX7_size_99 : decode cX7_size 99 = .ok (.ireturn, 1) := by decide +kernel
theorem dX7_size_100 : decode cX7_size 100 = .ok (.aload_n 0, 1) := by decide +kernel
theorem dX7_size_101 : decode cX7_size 101 = .ok (.getfield 19, 3) := by decide +kernel
theorem dX7_size_104 : decode cX7_size 104 = .ok (.getfield 105, 3) := by decide +kernel
theorem dX7_size_107 : decode cX7_size 107 = .ok (.ireturn, 1) := by decide +kernel
theorem dX7_size_108 : decode cX7_size 108 = .ok (.aload_n 0, 1) := by decide +kernel
theorem dX7_size_109 : decode cX7_size 109 = .ok (.getfield 19, 3) := by decide +kernel
theorem dX7_size_112 : decode cX7_size 112 = .ok (.getfield 108, 3) := by decide +kernel
theorem dX7_size_115 : decode cX7_size 115 = .ok (.ireturn, 1) := by decide +kernel
theorem dX7_size_116 : decode cX7_size 116 = .ok (.aload_n 0, 1) := by decide +kernel
theorem dX7_size_117 : decode cX7_size 117 = .ok (.getfield 28, 3) := by decide +kernel
theorem dX7_size_120 : decode cX7_size 120 = .ok (.getfield 111, 3) := by decide +kernel
theorem dX7_size_123 : decode cX7_size 123 = .ok (.ireturn, 1) := by decide +kernel
theorem dX7_size_124 : decode cX7_size 124 = .ok (.aload_n 0, 1) := by decide +kernel
theorem dX7_size_125 : decode cX7_size 125 = .ok (.getfield 28, 3) := by decide +kernel
theorem dX7_size_128 : decode cX7_size 128 = .ok (.invokevirtual 114, 3) := by decide +kernel
theorem dX7_size_131 : decode cX7_size 131 = .ok (.ireturn, 1) := by decide +kernel
theorem dX7_size_132 : decode cX7_size 132 = .ok (.aload_n 0, 1) := by decide +kernel
theorem dX7_size_133 : decode cX7_size 133 = .ok (.getfield 28, 3) := by decide +kernel
theorem dX7_size_136 : decode cX7_size 136 = .ok (.invokevirtual 118, 3) := by decide +kernel
theorem dX7_size_139 : decode cX7_size 139 = .ok (.ireturn, 1) := by decide +kernel
theorem dX7_size_140 : decode cX7_size 140 = .ok (.aload_n 0, 1) := by decide +kernel
theorem dX7_size_141 : decode cX7_size 141 = .ok (.getfield 44, 3) := by decide +kernel
theorem dX7_size_144 : decode cX7_size 144 = .ok (.getfield 121, 3) := by decide +kernel
theorem dX7_size_147 : decode cX7_size 147 = .ok (.ireturn, 1) := by decide +kernel
theorem dX7_size_148 : decode cX7_size 148 = .ok (.new 71, 3) := by decide +kernel
theorem dX7_size_151 : decode cX7_size 151 = .ok (.dup, 1) := by decide +kernel
theorem dX7_size_152 : decode cX7_size 152 = .ok (.invokespecial 73, 3) := by decide +kernel
theorem dX7_size_155 : decode cX7_size 155 = .ok (.athrow, 1) := by decide +kernel
theorem dX7_find_0 : decode cX7_find 0 = .ok (.aload_n 0, 1) := by decide +kernel
theorem dX7_find_1 : decode cX7_find 1 = .ok (.getfield 10, 3) := by decide +kernel
theorem dX7_find_4 : decode cX7_find 4 = .ok (.invokevirtual 124, 3) := by decide +kernel
theorem dX7_find_7 : decode cX7_find 7 = .ok (.lstore_n 1, 1) := by decide +kernel
theorem dX7_find_8 : decode cX7_find 8 = .ok (.lload_n 1, 1) := by decide +kernel
theorem dX7_find_9 : decode cX7_find 9 = .ok (.lconst 0, 1) := by decide +kernel
theorem dX7_find_10 : decode cX7_find 10 = .ok (.lcmp, 1) := by decide +kernel
theorem dX7_find_11 : decode cX7_find 11 = .ok (.ifCond .ne 7, 3) := by decide +kernel
theorem dX7_find_14 : decode cX7_find 14 = .ok (.iconst (-1), 1) := by decide +kernel
theorem dX7_find_15 : decode cX7_find 15 = .ok (.goto 11, 3) := by decide +kernel
theorem dX7_find_18 : decode cX7_find 18 = .ok (.aload_n 0, 1) := by decide +kernel
theorem dX7_find_19 : decode cX7_find 19 = .ok (.getfield 19, 3) := by decide +kernel
theorem dX7_find_22 : decode cX7_find 22 = .ok (.lload_n 1, 1) := by decide +kernel
theorem dX7_find_23 : decode cX7_find 23 = .ok (.invokevirtual 128, 3) := by decide +kernel
theorem dX7_find_26 : decode cX7_find 26 = .ok (.ireturn, 1) := by decide +kernel
theorem dX7_rate_0 : decode cX7_rate 0 = .ok (.iload_n 1, 1) := by decide +kernel
theorem dX7_rate_1 : decode cX7_rate 1 = .ok (.ifCond .ge 11, 3) := by decide +kernel
theorem dX7_rate_4 : decode cX7_rate 4 = .ok (.new 71, 3) := by decide +kernel
theorem dX7_rate_7 : decode cX7_rate 7 = .ok (.dup, 1) := by decide +kernel
theorem dX7_rate_8 : decode cX7_rate 8 = .ok (.invokespecial 73, 3) := by decide +kernel
theorem dX7_rate_11 : decode cX7_rate 11 = .ok (.athrow, 1) := by decide +kernel
theorem dX7_rate_12 : decode cX7_rate 12 = .ok (.aload_n 0, 1) := by decide +kernel
theorem dX7_rate_13 : decode cX7_rate 13 = .ok (.getfield 28, 3) := by decide +kernel
theorem dX7_rate_16 : decode cX7_rate 16 = .ok (.iload_n 1, 1) := by decide +kernel
theorem dX7_rate_17 : decode cX7_rate 17 = .ok (.invokevirtual 132, 3) := by decide +kernel
theorem dX7_rate_20 : decode cX7_rate 20 = .ok (.ireturn, 1) := by decide +kernel
theorem dX7_player_0 : decode cX7_player 0 = .ok (.aload_n 0, 1) := by decide +kernel
theorem dX7_player_1 : decode cX7_player 1 = .ok (.iload_n 1, 1) := by decide +kernel
theorem dX7_player_2 : decode cX7_player 2 = .ok (.invokevirtual 135, 3) := by decide +kernel
theorem dX7_player_5 : decode cX7_player 5 = .ok (.astore_n 3, 1) := by decide +kernel
theorem dX7_player_6 : decode cX7_player 6 = .ok (.iload_n 2, 1) := by decide +kernel
theorem dX7_player_7 : decode cX7_player 7 = .ok (.tableswitch 175 0 16 #[81, 86, 91, 96, 101, 106, 111, 116, 121, 126, 131, 136, 141, 146, 151, 159, 167], 81) := by decide +kernel
theorem dX7_player_88 : decode cX7_player 88 = .ok (.aload_n 3, 1) := by decide +kernel
theorem dX7_player_89 : decode cX7_player 89 = .ok (.getfield 139, 3) := by decide +kernel
theorem dX7_player_92 : decode cX7_player 92 = .ok (.ireturn, 1) := by decide +kernel
theorem dX7_player_93 : decode cX7_player 93 = .ok (.aload_n 3, 1) := by decide +kernel
theorem dX7_player_94 : decode cX7_player 94 = .ok (.getfield 144, 3) := by decide +kernel
theorem dX7_player_97 : decode cX7_player 97 = .ok (.ireturn, 1) := by decide +kernel
theorem dX7_player_98 : decode cX7_player 98 = .ok (.aload_n 3, 1) := by decide +kernel
theorem dX7_player_99 : decode cX7_player 99 = .ok (.getfield 147, 3) := by decide +kernel
theorem dX7_player_102 : decode cX7_player 102 = .ok (.ireturn, 1) := by decide +kernel
theorem dX7_player_103 : decode cX7_player 103 = .ok (.aload_n 3, 1) := by decide +kernel
theorem dX7_player_104 : decode cX7_player 104 = .ok (.getfield 148, 3) := by decide +kernel
theorem dX7_player_107 : decode cX7_player 107 = .ok (.ireturn, 1) := by decide +kernel
theorem dX7_player_108 : decode cX7_player 108 = .ok (.aload_n 3, 1) := by decide +kernel
theorem dX7_player_109 : decode cX7_player 109 = .ok (.getfield 151, 3) := by decide +kernel
theorem dX7_player_112 : decode cX7_player 112 = .ok (.ireturn, 1) := by decide +kernel
theorem dX7_player_113 : decode cX7_player 113 = .ok (.aload_n 3, 1) := by decide +kernel
theorem dX7_player_114 : decode cX7_player 114 = .ok (.getfield 154, 3) := by decide +kernel
theorem dX7_player_117 : decode cX7_player 117 = .ok (.ireturn, 1) := by decide +kernel
theorem dX7_player_118 : decode cX7_player 118 = .ok (.aload_n 3, 1) := by decide +kernel
theorem dX7_player_119 : decode cX7_player 119 = .ok (.getfield 157, 3) := by decide +kernel
theorem dX7_player_122 : decode cX7_player 122 = .ok (.ireturn, 1) := by decide +kernel
theorem dX7_player_123 : decode cX7_player 123 = .ok (.aload_n 3, 1) := by decide +kernel
theorem dX7_player_124 : decode cX7_player 124 = .ok (.getfield 160, 3) := by decide +kernel
theorem dX7_player_127 : decode cX7_player 127 = .ok (.ireturn, 1) := by decide +kernel
theorem dX7_player_128 : decode cX7_player 128 = .ok (.aload_n 3, 1) := by decide +kernel
theorem dX7_player_129 : decode cX7_player 129 = .ok (.invokevirtual 163, 3) := by decide +kernel
theorem dX7_player_132 : decode cX7_player 132 = .ok (.ireturn, 1) := by decide +kernel
theorem dX7_player_133 : decode cX7_player 133 = .ok (.aload_n 3, 1) := by decide +kernel
theorem dX7_player_134 : decode cX7_player 134 = .ok (.invokevirtual 166, 3) := by decide +kernel
theorem dX7_player_137 : decode cX7_player 137 = .ok (.ireturn, 1) := by decide +kernel
theorem dX7_player_138 : decode cX7_player 138 = .ok (.aload_n 3, 1) := by decide +kernel
theorem dX7_player_139 : decode cX7_player 139 = .ok (.getfield 169, 3) := by decide +kernel
theorem dX7_player_142 : decode cX7_player 142 = .ok (.ireturn, 1) := by decide +kernel
theorem dX7_player_143 : decode cX7_player 143 = .ok (.aload_n 3, 1) := by decide +kernel
theorem dX7_player_144 : decode cX7_player 144 = .ok (.getfield 172, 3) := by decide +kernel
theorem dX7_player_147 : decode cX7_player 147 = .ok (.ireturn, 1) := by decide +kernel
theorem dX7_player_148 : decode cX7_player 148 = .ok (.aload_n 3, 1) := by decide +kernel
theorem dX7_player_149 : decode cX7_player 149 = .ok (.getfield 175, 3) := by decide +kernel
theorem dX7_player_152 : decode cX7_player 152 = .ok (.ireturn, 1) := by decide +kernel
theorem dX7_player_153 : decode cX7_player 153 = .ok (.aload_n 3, 1) := by decide +kernel
theorem dX7_player_154 : decode cX7_player 154 = .ok (.getfield 178, 3) := by decide +kernel
theorem dX7_player_157 : decode cX7_player 157 = .ok (.ireturn, 1) := by decide +kernel
theorem dX7_player_158 : decode cX7_player 158 = .ok (.aload_n 3, 1) := by decide +kernel
theorem dX7_player_159 : decode cX7_player 159 = .ok (.getfield 181, 3) := by decide +kernel
theorem dX7_player_162 : decode cX7_player 162 = .ok (.getfield 185, 3) := by decide +kernel
theorem dX7_player_165 : decode cX7_player 165 = .ok (.ireturn, 1) := by decide +kernel
theorem dX7_player_166 : decode cX7_player 166 = .ok (.aload_n 3, 1) := by decide +kernel
theorem dX7_player_167 : decode cX7_player 167 = .ok (.getfield 181, 3) := by decide +kernel
theorem dX7_player_170 : decode cX7_player 170 = .ok (.getfield 190, 3) := by decide +kernel
theorem dX7_player_173 : decode cX7_player 173 = .ok (.ireturn, 1) := by decide +kernel
theorem dX7_player_174 : decode cX7_player 174 = .ok (.aload_n 3, 1) := by decide +kernel
theorem dX7_player_175 : decode cX7_player 175 = .ok (.getfield 181, 3) := by decide +kernel
theorem dX7_player_178 : decode cX7_player 178 = .ok (.getfield 193, 3) := by decide +kernel
theorem dX7_player_181 : decode cX7_player 181 = .ok (.ireturn, 1) := by decide +kernel
theorem dX7_player_182 : decode cX7_player 182 = .ok (.new 71, 3) := by decide +kernel
theorem dX7_player_185 : decode cX7_player 185 = .ok (.dup, 1) := by decide +kernel
theorem dX7_player_186 : decode cX7_player 186 = .ok (.invokespecial 73, 3) := by decide +kernel
theorem dX7_player_189 : decode cX7_player 189 = .ok (.athrow, 1) := by decide +kernel
theorem dX7_loaded_0 : decode cX7_loaded 0 = .ok (.aload_n 0, 1) := by decide +kernel
theorem dX7_loaded_1 : decode cX7_loaded 1 = .ok (.iload_n 1, 1) := by decide +kernel
theorem dX7_loaded_2 : decode cX7_loaded 2 = .ok (.invokevirtual 135, 3) := by decide +kernel
theorem dX7_loaded_5 : decode cX7_loaded 5 = .ok (.astore 4, 2) := by decide +kernel
theorem dX7_loaded_7 : decode cX7_loaded 7 = .ok (.iload_n 3, 1) := by decide +kernel
theorem dX7_loaded_8 : decode cX7_loaded 8 = .ok (.ifCond .lt 8, 3) := by decide +kernel
theorem dX7_loaded_11 : decode cX7_loaded 11 = .ok (.iload_n 3, 1) := by decide +kernel
theorem dX7_loaded_12 : decode cX7_loaded 12 = .ok (.iconst 3, 1) := by decide +kernel
theorem dX7_loaded_13 : decode cX7_loaded 13 = .ok (.if_icmp .le 11, 3) := by decide +kernel
theorem dX7_loaded_16 : decode cX7_loaded 16 = .ok (.new 71, 3) := by decide +kernel
theorem dX7_loaded_19 : decode cX7_loaded 19 = .ok (.dup, 1) := by decide +kernel
theorem dX7_loaded_20 : decode cX7_loaded 20 = .ok (.invokespecial 73, 3) := by decide +kernel
theorem dX7_loaded_23 : decode cX7_loaded 23 = .ok (.athrow, 1) := by decide +kernel
theorem dX7_loaded_24 : decode cX7_loaded 24 = .ok (.iload_n 2, 1) := by decide +kernel
theorem dX7_loaded_25 : decode cX7_loaded 25 = .ok (.ifCond .lt 18, 3) := by decide +kernel
theorem dX7_loaded_28 : decode cX7_loaded 28 = .ok (.iload_n 2, 1) := by decide +kernel
theorem dX7_loaded_29 : decode cX7_loaded 29 = .ok (.aload 4, 2) := by decide +kernel
theorem dX7_loaded_31 : decode cX7_loaded 31 = .ok (.getfield 147, 3) := by decide +kernel
theorem dX7_loaded_34 : decode cX7_loaded 34 = .ok (.if_icmp .ge 9, 3) := by decide +kernel
theorem dX7_loaded_37 : decode cX7_loaded 37 = .ok (.iload_n 2, 1) := by decide +kernel
theorem dX7_loaded_38 : decode cX7_loaded 38 = .ok (.bipush 30, 2) := by decide +kernel
theorem dX7_loaded_40 : decode cX7_loaded 40 = .ok (.if_icmp .lt 5, 3) := by decide +kernel
theorem dX7_loaded_43 : decode cX7_loaded 43 = .ok (.iconst (-1), 1) := by decide +kernel
theorem dX7_loaded_44 : decode cX7_loaded 44 = .ok (.ireturn, 1) := by decide +kernel
theorem dX7_loaded_45 : decode cX7_loaded 45 = .ok (.iload_n 3, 1) := by decide +kernel
theorem dX7_loaded_46 : decode cX7_loaded 46 = .ok (.tableswitch 59 0 2 #[26, 34, 51], 26) := by decide +kernel
theorem dX7_loaded_72 : decode cX7_loaded 72 = .ok (.aload 4, 2) := by decide +kernel
theorem dX7_loaded_74 : decode cX7_loaded 74 = .ok (.getfield 196, 3) := by decide +kernel
theorem dX7_loaded_77 : decode cX7_loaded 77 = .ok (.iload_n 2, 1) := by decide +kernel
theorem dX7_loaded_78 : decode cX7_loaded 78 = .ok (.iaload, 1) := by decide +kernel
theorem dX7_loaded_79 : decode cX7_loaded 79 = .ok (.ireturn, 1) := by decide +kernel
theorem dX7_loaded_80 : decode cX7_loaded 80 = .ok (.aload 4, 2) := by decide +kernel
theorem dX7_loaded_82 : decode cX7_loaded 82 = .ok (.getfield 181, 3) := by decide +kernel
theorem dX7_loaded_85 : decode cX7_loaded 85 = .ok (.iload_n 2, 1) := by decide +kernel
theorem dX7_loaded_86 : decode cX7_loaded 86 = .ok (.aload 4, 2) := by decide +kernel
theorem dX7_loaded_88 : decode cX7_loaded 88 = .ok (.getfield 196, 3) := by decide +kernel
theorem dX7_loaded_91 : decode cX7_loaded 91 = .ok (.iload_n 2, 1) := by decide +kernel
theorem dX7_loaded_92 : decode cX7_loaded 92 = .ok (.iaload, 1) := by decide +kernel
theorem dX7_loaded_93 : decode cX7_loaded 93 = .ok (.invokevirtual 199, 3) := by decide +kernel
theorem dX7_loaded_96 : decode cX7_loaded 96 = .ok (.ireturn, 1) := by decide +kernel
theorem dX7_loaded_97 : decode cX7_loaded 97 = .ok (.aload 4, 2) := by decide +kernel
theorem dX7_loaded_99 : decode cX7_loaded 99 = .ok (.getfield 203, 3) := by decide +kernel
theorem dX7_loaded_102 : decode cX7_loaded 102 = .ok (.iload_n 2, 1) := by decide +kernel
theorem dX7_loaded_103 : decode cX7_loaded 103 = .ok (.iaload, 1) := by decide +kernel
theorem dX7_loaded_104 : decode cX7_loaded 104 = .ok (.ireturn, 1) := by decide +kernel
theorem dX7_loaded_105 : decode cX7_loaded 105 = .ok (.aload 4, 2) := by decide +kernel
theorem dX7_loaded_107 : decode cX7_loaded 107 = .ok (.getfield 206, 3) := by decide +kernel
theorem dX7_loaded_110 : decode cX7_loaded 110 = .ok (.iload_n 2, 1) := by decide +kernel
theorem dX7_loaded_111 : decode cX7_loaded 111 = .ok (.iaload, 1) := by decide +kernel
theorem dX7_loaded_112 : decode cX7_loaded 112 = .ok (.ireturn, 1) := by decide +kernel
theorem dX7_sizeOf_0 : decode cX7_sizeOf 0 = .ok (.aload_n 0, 1) := by decide +kernel
theorem dX7_sizeOf_1 : decode cX7_sizeOf 1 = .ok (.iload_n 1, 1) := by decide +kernel
theorem dX7_sizeOf_2 : decode cX7_sizeOf 2 = .ok (.invokevirtual 135, 3) := by decide +kernel
theorem dX7_sizeOf_5 : decode cX7_sizeOf 5 = .ok (.getfield 181, 3) := by decide +kernel
theorem dX7_sizeOf_8 : decode cX7_sizeOf 8 = .ok (.astore 4, 2) := by decide +kernel
theorem dX7_sizeOf_10 : decode cX7_sizeOf 10 = .ok (.iload_n 2, 1) := by decide +kernel
theorem dX7_sizeOf_11 : decode cX7_sizeOf 11 = .ok (.ifCond .lt 25, 3) := by decide +kernel
theorem dX7_sizeOf_14 : decode cX7_sizeOf 14 = .ok (.iload_n 2, 1) := by decide +kernel
theorem dX7_sizeOf_15 : decode cX7_sizeOf 15 = .ok (.aload 4, 2) := by decide +kernel
theorem dX7_sizeOf_17 : decode cX7_sizeOf 17 = .ok (.getfield 185, 3) := by decide +kernel
theorem dX7_sizeOf_20 : decode cX7_sizeOf 20 = .ok (.if_icmp .ge 16, 3) := by decide +kernel
theorem dX7_sizeOf_23 : decode cX7_sizeOf 23 = .ok (.iload_n 3, 1) := by decide +kernel
theorem dX7_sizeOf_24 : decode cX7_sizeOf 24 = .ok (.ifCond .lt 12, 3) := by decide +kernel
theorem dX7_sizeOf_27 : decode cX7_sizeOf 27 = .ok (.iload_n 3, 1) := by decide +kernel
theorem dX7_sizeOf_28 : decode cX7_sizeOf 28 = .ok (.aload 4, 2) := by decide +kernel
theorem dX7_sizeOf_30 : decode cX7_sizeOf 30 = .ok (.getfield 190, 3) := by decide +kernel
theorem dX7_sizeOf_33 : decode cX7_sizeOf 33 = .ok (.if_icmp .lt 11, 3) := by decide +kernel
theorem dX7_sizeOf_36 : decode cX7_sizeOf 36 = .ok (.new 71, 3) := by decide +kernel
theorem dX7_sizeOf_39 : decode cX7_sizeOf 39 = .ok (.dup, 1) := by decide +kernel
theorem dX7_sizeOf_40 : decode cX7_sizeOf 40 = .ok (.invokespecial 73, 3) := by decide +kernel
theorem dX7_sizeOf_43 : decode cX7_sizeOf 43 = .ok (.athrow, 1) := by decide +kernel
theorem dX7_sizeOf_44 : decode cX7_sizeOf 44 = .ok (.aload 4, 2) := by decide +kernel
theorem dX7_sizeOf_46 : decode cX7_sizeOf 46 = .ok (.iload_n 2, 1) := by decide +kernel
theorem dX7_sizeOf_47 : decode cX7_sizeOf 47 = .ok (.iload_n 3, 1) := by decide +kernel
theorem dX7_sizeOf_48 : decode cX7_sizeOf 48 = .ok (.invokevirtual 199, 3) := by decide +kernel
theorem dX7_sizeOf_51 : decode cX7_sizeOf 51 = .ok (.ireturn, 1) := by decide +kernel
theorem dX7_wouldChoose_0 : decode cX7_wouldChoose 0 = .ok (.aload_n 0, 1) := by decide +kernel
theorem dX7_wouldChoose_1 : decode cX7_wouldChoose 1 = .ok (.iload_n 1, 1) := by decide +kernel
theorem dX7_wouldChoose_2 : decode cX7_wouldChoose 2 = .ok (.invokevirtual 135, 3) := by decide +kernel
theorem dX7_wouldChoose_5 : decode cX7_wouldChoose 5 = .ok (.astore_n 2, 1) := by decide +kernel
theorem dX7_wouldChoose_6 : decode cX7_wouldChoose 6 = .ok (.aload_n 2, 1) := by decide +kernel
theorem dX7_wouldChoose_7 : decode cX7_wouldChoose 7 = .ok (.invokevirtual 209, 3) := by decide +kernel
theorem dX7_wouldChoose_10 : decode cX7_wouldChoose 10 = .ok (.ifCond .ne 7, 3) := by decide +kernel
theorem dX7_wouldChoose_13 : decode cX7_wouldChoose 13 = .ok (.iconst (-1), 1) := by decide +kernel
theorem dX7_wouldChoose_14 : decode cX7_wouldChoose 14 = .ok (.goto 7, 3) := by decide +kernel
theorem dX7_wouldChoose_17 : decode cX7_wouldChoose 17 = .ok (.aload_n 2, 1) := by decide +kernel
theorem dX7_wouldChoose_18 : decode cX7_wouldChoose 18 = .ok (.invokevirtual 212, 3) := by decide +kernel
theorem dX7_wouldChoose_21 : decode cX7_wouldChoose 21 = .ok (.ireturn, 1) := by decide +kernel
theorem dX7_share_0 : decode cX7_share 0 = .ok (.aload_n 0, 1) := by decide +kernel
theorem dX7_share_1 : decode cX7_share 1 = .ok (.iload_n 1, 1) := by decide +kernel
theorem dX7_share_2 : decode cX7_share 2 = .ok (.invokevirtual 135, 3) := by decide +kernel
theorem dX7_share_5 : decode cX7_share 5 = .ok (.astore_n 2, 1) := by decide +kernel
theorem dX7_share_6 : decode cX7_share 6 = .ok (.aload_n 0, 1) := by decide +kernel
theorem dX7_share_7 : decode cX7_share 7 = .ok (.getfield 37, 3) := by decide +kernel
theorem dX7_share_10 : decode cX7_share 10 = .ok (.invokevirtual 215, 3) := by decide +kernel
theorem dX7_share_13 : decode cX7_share 13 = .ok (.iload_n 1, 1) := by decide +kernel
theorem dX7_share_14 : decode cX7_share 14 = .ok (.invokevirtual 219, 3) := by decide +kernel
theorem dX7_share_17 : decode cX7_share 17 = .ok (.getfield 169, 3) := by decide +kernel
theorem dX7_share_20 : decode cX7_share 20 = .ok (.aload_n 2, 1) := by decide +kernel
theorem dX7_share_21 : decode cX7_share 21 = .ok (.getfield 169, 3) := by decide +kernel
theorem dX7_share_24 : decode cX7_share 24 = .ok (.isub, 1) := by decide +kernel
theorem dX7_share_25 : decode cX7_share 25 = .ok (.ireturn, 1) := by decide +kernel
theorem dX7_forecast_0 : decode cX7_forecast 0 = .ok (.aload_n 0, 1) := by decide +kernel
theorem dX7_forecast_1 : decode cX7_forecast 1 = .ok (.iload_n 1, 1) := by decide +kernel
theorem dX7_forecast_2 : decode cX7_forecast 2 = .ok (.invokevirtual 222, 3) := by decide +kernel
theorem dX7_forecast_5 : decode cX7_forecast 5 = .ok (.iload_n 2, 1) := by decide +kernel
theorem dX7_forecast_6 : decode cX7_forecast 6 = .ok (.ifCond .lt 8, 3) := by decide +kernel
theorem dX7_forecast_9 : decode cX7_forecast 9 = .ok (.iload_n 2, 1) := by decide +kernel
theorem dX7_forecast_10 : decode cX7_forecast 10 = .ok (.iconst 5, 1) := by decide +kernel
theorem dX7_forecast_11 : decode cX7_forecast 11 = .ok (.if_icmp .le 11, 3) := by decide +kernel
theorem dX7_forecast_14 : decode cX7_forecast 14 = .ok (.new 71, 3) := by decide +kernel
theorem dX7_forecast_17 : decode cX7_forecast 17 = .ok (.dup, 1) := by decide +kernel
theorem dX7_forecast_18 : decode cX7_forecast 18 = .ok (.invokespecial 73, 3) := by decide +kernel
theorem dX7_forecast_21 : decode cX7_forecast 21 = .ok (.athrow, 1) := by decide +kernel
theorem dX7_forecast_22 : decode cX7_forecast 22 = .ok (.aload_n 0, 1) := by decide +kernel
theorem dX7_forecast_23 : decode cX7_forecast 23 = .ok (.getfield 37, 3) := by decide +kernel
theorem dX7_forecast_26 : decode cX7_forecast 26 = .ok (.invokevirtual 225, 3) := by decide +kernel
theorem dX7_forecast_29 : decode cX7_forecast 29 = .ok (.astore_n 3, 1) := by decide +kernel
theorem dX7_forecast_30 : decode cX7_forecast 30 = .ok (.aload_n 3, 1) := by decide +kernel
theorem dX7_forecast_31 : decode cX7_forecast 31 = .ok (.iload_n 1, 1) := by decide +kernel
theorem dX7_forecast_32 : decode cX7_forecast 32 = .ok (.invokevirtual 219, 3) := by decide +kernel
theorem dX7_forecast_35 : decode cX7_forecast 35 = .ok (.astore 4, 2) := by decide +kernel
theorem dX7_forecast_37 : decode cX7_forecast 37 = .ok (.iload_n 2, 1) := by decide +kernel
theorem dX7_forecast_38 : decode cX7_forecast 38 = .ok (.tableswitch 64 0 4 #[34, 40, 46, 52, 58], 34) := by decide +kernel
theorem dX7_forecast_72 : decode cX7_forecast 72 = .ok (.aload 4, 2) := by decide +kernel
theorem dX7_forecast_74 : decode cX7_forecast 74 = .ok (.getfield 157, 3) := by decide +kernel
theorem dX7_forecast_77 : decode cX7_forecast 77 = .ok (.ireturn, 1) := by decide +kernel
theorem dX7_forecast_78 : decode cX7_forecast 78 = .ok (.aload 4, 2) := by decide +kernel
theorem dX7_forecast_80 : decode cX7_forecast 80 = .ok (.getfield 160, 3) := by decide +kernel
theorem dX7_forecast_83 : decode cX7_forecast 83 = .ok (.ireturn, 1) := by decide +kernel
theorem dX7_forecast_84 : decode cX7_forecast 84 = .ok (.aload 4, 2) := by decide +kernel
theorem dX7_forecast_86 : decode cX7_forecast 86 = .ok (.invokevirtual 163, 3) := by decide +kernel
theorem dX7_forecast_89 : decode cX7_forecast 89 = .ok (.ireturn, 1) := by decide +kernel
theorem dX7_forecast_90 : decode cX7_forecast 90 = .ok (.aload 4, 2) := by decide +kernel
theorem dX7_forecast_92 : decode cX7_forecast 92 = .ok (.invokevirtual 166, 3) := by decide +kernel
theorem dX7_forecast_95 : decode cX7_forecast 95 = .ok (.ireturn, 1) := by decide +kernel
theorem dX7_forecast_96 : decode cX7_forecast 96 = .ok (.aload 4, 2) := by decide +kernel
theorem dX7_forecast_98 : decode cX7_forecast 98 = .ok (.getfield 147, 3) := by decide +kernel
theorem dX7_forecast_101 : decode cX7_forecast 101 = .ok (.ireturn, 1) := by decide +kernel
theorem dX7_forecast_102 : decode cX7_forecast 102 = .ok (.aload_n 3, 1) := by decide +kernel
theorem dX7_forecast_103 : decode cX7_forecast 103 = .ok (.getfield 111, 3) := by decide +kernel
theorem dX7_forecast_106 : decode cX7_forecast 106 = .ok (.ireturn, 1) := by decide +kernel
theorem dX7_steadyQuality_0 : decode cX7_steadyQuality 0 = .ok (.aload_n 0, 1) := by decide +kernel
theorem dX7_steadyQuality_1 : decode cX7_steadyQuality 1 = .ok (.iload_n 1, 1) := by decide +kernel
theorem dX7_steadyQuality_2 : decode cX7_steadyQuality 2 = .ok (.invokevirtual 135, 3) := by decide +kernel
theorem dX7_steadyQuality_5 : decode cX7_steadyQuality 5 = .ok (.astore_n 2, 1) := by decide +kernel
theorem dX7_steadyQuality_6 : decode cX7_steadyQuality 6 = .ok (.aload_n 2, 1) := by decide +kernel
theorem dX7_steadyQuality_7 : decode cX7_steadyQuality 7 = .ok (.invokevirtual 209, 3) := by decide +kernel
theorem dX7_steadyQuality_10 : decode cX7_steadyQuality 10 = .ok (.ifCond .ne 7, 3) := by decide +kernel
theorem dX7_steadyQuality_13 : decode cX7_steadyQuality 13 = .ok (.iconst (-1), 1) := by decide +kernel
theorem dX7_steadyQuality_14 : decode cX7_steadyQuality 14 = .ok (.goto 11, 3) := by decide +kernel
theorem dX7_steadyQuality_17 : decode cX7_steadyQuality 17 = .ok (.aload_n 0, 1) := by decide +kernel
theorem dX7_steadyQuality_18 : decode cX7_steadyQuality 18 = .ok (.getfield 37, 3) := by decide +kernel
theorem dX7_steadyQuality_21 : decode cX7_steadyQuality 21 = .ok (.iload_n 1, 1) := by decide +kernel
theorem dX7_steadyQuality_22 : decode cX7_steadyQuality 22 = .ok (.invokevirtual 228, 3) := by decide +kernel
theorem dX7_steadyQuality_25 : decode cX7_steadyQuality 25 = .ok (.ireturn, 1) := by decide +kernel
theorem dX7_oracle_0 : decode cX7_oracle 0 = .ok (.aload_n 0, 1) := by decide +kernel
theorem dX7_oracle_1 : decode cX7_oracle 1 = .ok (.iload_n 1, 1) := by decide +kernel
theorem dX7_oracle_2 : decode cX7_oracle 2 = .ok (.invokevirtual 135, 3) := by decide +kernel
theorem dX7_oracle_5 : decode cX7_oracle 5 = .ok (.astore_n 3, 1) := by decide +kernel
theorem dX7_oracle_6 : decode cX7_oracle 6 = .ok (.iload_n 2, 1) := by decide +kernel
theorem dX7_oracle_7 : decode cX7_oracle 7 = .ok (.ifCond .lt 11, 3) := by decide +kernel
theorem dX7_oracle_10 : decode cX7_oracle 10 = .ok (.iload_n 2, 1) := by decide +kernel
theorem dX7_oracle_11 : decode cX7_oracle 11 = .ok (.aload_n 3, 1) := by decide +kernel
theorem dX7_oracle_12 : decode cX7_oracle 12 = .ok (.invokevirtual 209, 3) := by decide +kernel
theorem dX7_oracle_15 : decode cX7_oracle 15 = .ok (.if_icmp .lt 5, 3) := by decide +kernel
theorem dX7_oracle_18 : decode cX7_oracle 18 = .ok (.iconst (-1), 1) := by decide +kernel
theorem dX7_oracle_19 : decode cX7_oracle 19 = .ok (.ireturn, 1) := by decide +kernel
theorem dX7_oracle_20 : decode cX7_oracle 20 = .ok (.aload_n 3, 1) := by decide +kernel
theorem dX7_oracle_21 : decode cX7_oracle 21 = .ok (.invokevirtual 231, 3) := by decide +kernel
theorem dX7_oracle_24 : decode cX7_oracle 24 = .ok (.iload_n 2, 1) := by decide +kernel
theorem dX7_oracle_25 : decode cX7_oracle 25 = .ok (.iadd, 1) := by decide +kernel
theorem dX7_oracle_26 : decode cX7_oracle 26 = .ok (.istore 4, 2) := by decide +kernel
theorem dX7_oracle_28 : decode cX7_oracle 28 = .ok (.aload_n 0, 1) := by decide +kernel
theorem dX7_oracle_29 : decode cX7_oracle 29 = .ok (.getfield 37, 3) := by decide +kernel
theorem dX7_oracle_32 : decode cX7_oracle 32 = .ok (.iload_n 1, 1) := by decide +kernel
theorem dX7_oracle_33 : decode cX7_oracle 33 = .ok (.iload 4, 2) := by decide +kernel
theorem dX7_oracle_35 : decode cX7_oracle 35 = .ok (.invokevirtual 234, 3) := by decide +kernel
theorem dX7_oracle_38 : decode cX7_oracle 38 = .ok (.aload_n 0, 1) := by decide +kernel
theorem dX7_oracle_39 : decode cX7_oracle 39 = .ok (.getfield 37, 3) := by decide +kernel
theorem dX7_oracle_42 : decode cX7_oracle 42 = .ok (.iload 4, 2) := by decide +kernel
theorem dX7_oracle_44 : decode cX7_oracle 44 = .ok (.invokevirtual 238, 3) := by decide +kernel
theorem dX7_oracle_47 : decode cX7_oracle 47 = .ok (.ireturn, 1) := by decide +kernel
theorem dX7_regret_0 : decode cX7_regret 0 = .ok (.aload_n 0, 1) := by decide +kernel
theorem dX7_regret_1 : decode cX7_regret 1 = .ok (.iload_n 1, 1) := by decide +kernel
theorem dX7_regret_2 : decode cX7_regret 2 = .ok (.invokevirtual 135, 3) := by decide +kernel
theorem dX7_regret_5 : decode cX7_regret 5 = .ok (.astore_n 2, 1) := by decide +kernel
theorem dX7_regret_6 : decode cX7_regret 6 = .ok (.aload_n 2, 1) := by decide +kernel
theorem dX7_regret_7 : decode cX7_regret 7 = .ok (.invokevirtual 209, 3) := by decide +kernel
theorem dX7_regret_10 : decode cX7_regret 10 = .ok (.ifCond .ne 5, 3) := by decide +kernel
theorem dX7_regret_13 : decode cX7_regret 13 = .ok (.iconst 0, 1) := by decide +kernel
theorem dX7_regret_14 : decode cX7_regret 14 = .ok (.ireturn, 1) := by decide +kernel
theorem dX7_regret_15 : decode cX7_regret 15 = .ok (.aload_n 0, 1) := by decide +kernel
theorem dX7_regret_16 : decode cX7_regret 16 = .ok (.getfield 37, 3) := by decide +kernel
theorem dX7_regret_19 : decode cX7_regret 19 = .ok (.invokevirtual 225, 3) := by decide +kernel
theorem dX7_regret_22 : decode cX7_regret 22 = .ok (.iload_n 1, 1) := by decide +kernel
theorem dX7_regret_23 : decode cX7_regret 23 = .ok (.invokevirtual 219, 3) := by decide +kernel
theorem dX7_regret_26 : decode cX7_regret 26 = .ok (.invokevirtual 166, 3) := by decide +kernel
theorem dX7_regret_29 : decode cX7_regret 29 = .ok (.istore_n 3, 1) := by decide +kernel
theorem dX7_regret_30 : decode cX7_regret 30 = .ok (.aload_n 0, 1) := by decide +kernel
theorem dX7_regret_31 : decode cX7_regret 31 = .ok (.getfield 37, 3) := by decide +kernel
theorem dX7_regret_34 : decode cX7_regret 34 = .ok (.iload_n 1, 1) := by decide +kernel
theorem dX7_regret_35 : decode cX7_regret 35 = .ok (.aload_n 2, 1) := by decide +kernel
theorem dX7_regret_36 : decode cX7_regret 36 = .ok (.getfield 181, 3) := by decide +kernel
theorem dX7_regret_39 : decode cX7_regret 39 = .ok (.getfield 185, 3) := by decide +kernel
theorem dX7_regret_42 : decode cX7_regret 42 = .ok (.iconst 1, 1) := by decide +kernel
theorem dX7_regret_43 : decode cX7_regret 43 = .ok (.isub, 1) := by decide +kernel
theorem dX7_regret_44 : decode cX7_regret 44 = .ok (.invokevirtual 234, 3) := by decide +kernel
theorem dX7_regret_47 : decode cX7_regret 47 = .ok (.aload_n 0, 1) := by decide +kernel
theorem dX7_regret_48 : decode cX7_regret 48 = .ok (.getfield 37, 3) := by decide +kernel
theorem dX7_regret_51 : decode cX7_regret 51 = .ok (.iload_n 1, 1) := by decide +kernel
theorem dX7_regret_52 : decode cX7_regret 52 = .ok (.invokevirtual 241, 3) := by decide +kernel
theorem dX7_regret_55 : decode cX7_regret 55 = .ok (.invokevirtual 166, 3) := by decide +kernel
theorem dX7_regret_58 : decode cX7_regret 58 = .ok (.iload_n 3, 1) := by decide +kernel
theorem dX7_regret_59 : decode cX7_regret 59 = .ok (.isub, 1) := by decide +kernel
theorem dX7_regret_60 : decode cX7_regret 60 = .ok (.ireturn, 1) := by decide +kernel
theorem dX7_leastRate_0 : decode cX7_leastRate 0 = .ok (.aload_n 0, 1) := by decide +kernel
theorem dX7_leastRate_1 : decode cX7_leastRate 1 = .ok (.getfield 37, 3) := by decide +kernel
theorem dX7_leastRate_4 : decode cX7_leastRate 4 = .ok (.invokevirtual 244, 3) := by decide +kernel
theorem dX7_leastRate_7 : decode cX7_leastRate 7 = .ok (.ireturn, 1) := by decide +kernel
theorem dX7_fairness_0 : decode cX7_fairness 0 = .ok (.dconst 0, 1) := by decide +kernel
theorem dX7_fairness_1 : decode cX7_fairness 1 = .ok (.dstore_n 1, 1) := by decide +kernel
theorem dX7_fairness_2 : decode cX7_fairness 2 = .ok (.dconst 0, 1) := by decide +kernel
theorem dX7_fairness_3 : decode cX7_fairness 3 = .ok (.dstore_n 3, 1) := by decide +kernel
theorem dX7_fairness_4 : decode cX7_fairness 4 = .ok (.aload_n 0, 1) := by decide +kernel
theorem dX7_fairness_5 : decode cX7_fairness 5 = .ok (.getfield 28, 3) := by decide +kernel
theorem dX7_fairness_8 : decode cX7_fairness 8 = .ok (.getfield 247, 3) := by decide +kernel
theorem dX7_fairness_11 : decode cX7_fairness 11 = .ok (.astore 5, 2) := by decide +kernel
theorem dX7_fairness_13 : decode cX7_fairness 13 = .ok (.aload 5, 2) := by decide +kernel
theorem dX7_fairness_15 : decode cX7_fairness 15 = .ok (.arraylength, 1) := by decide +kernel
theorem dX7_fairness_16 : decode cX7_fairness 16 = .ok (.istore 6, 2) := by decide +kernel
theorem dX7_fairness_18 : decode cX7_fairness 18 = .ok (.iconst 0, 1) := by decide +kernel
theorem dX7_fairness_19 : decode cX7_fairness 19 = .ok (.istore 7, 2) := by decide +kernel
theorem dX7_fairness_21 : decode cX7_fairness 21 = .ok (.iload 7, 2) := by decide +kernel
theorem dX7_fairness_23 : decode cX7_fairness 23 = .ok (.iload 6, 2) := by decide +kernel
theorem dX7_fairness_25 : decode cX7_fairness 25 = .ok (.if_icmp .ge 52, 3) := by decide +kernel
theorem dX7_fairness_28 : decode cX7_fairness 28 = .ok (.aload 5, 2) := by decide +kernel
theorem dX7_fairness_30 : decode cX7_fairness 30 = .ok (.iload 7, 2) := by decide +kernel
theorem dX7_fairness_32 : decode cX7_fairness 32 = .ok (.aaload, 1) := by decide +kernel
theorem dX7_fairness_33 : decode cX7_fairness 33 = .ok (.astore 8, 2) := by decide +kernel
theorem dX7_fairness_35 : decode cX7_fairness 35 = .ok (.aload 8, 2) := by decide +kernel
theorem dX7_fairness_37 : decode cX7_fairness 37 = .ok (.getfield 178, 3) := by decide +kernel
theorem dX7_fairness_40 : decode cX7_fairness 40 = .ok (.ifCond .le 31, 3) := by decide +kernel
theorem dX7_fairness_43 : decode cX7_fairness 43 = .ok (.aload 8, 2) := by decide +kernel
theorem dX7_fairness_45 : decode cX7_fairness 45 = .ok (.getfield 169, 3) := by decide +kernel
theorem dX7_fairness_48 : decode cX7_fairness 48 = .ok (.i2d, 1) := by decide +kernel
theorem dX7_fairness_49 : decode cX7_fairness 49 = .ok (.aload 8, 2) := by decide +kernel
theorem dX7_fairness_51 : decode cX7_fairness 51 = .ok (.getfield 178, 3) := by decide +kernel
theorem dX7_fairness_54 : decode cX7_fairness 54 = .ok (.i2d, 1) := by decide +kernel
theorem dX7_fairness_55 : decode cX7_fairness 55 = .ok (.ddiv, 1) := by decide +kernel
theorem dX7_fairness_56 : decode cX7_fairness 56 = .ok (.dstore 9, 2) := by decide +kernel
theorem dX7_fairness_58 : decode cX7_fairness 58 = .ok (.dload_n 1, 1) := by decide +kernel
theorem dX7_fairness_59 : decode cX7_fairness 59 = .ok (.dload 9, 2) := by decide +kernel
theorem dX7_fairness_61 : decode cX7_fairness 61 = .ok (.dadd, 1) := by decide +kernel
theorem dX7_fairness_62 : decode cX7_fairness 62 = .ok (.dstore_n 1, 1) := by decide +kernel
theorem dX7_fairness_63 : decode cX7_fairness 63 = .ok (.dload_n 3, 1) := by decide +kernel
theorem dX7_fairness_64 : decode cX7_fairness 64 = .ok (.dload 9, 2) := by decide +kernel
theorem dX7_fairness_66 : decode cX7_fairness 66 = .ok (.dload 9, 2) := by decide +kernel
theorem dX7_fairness_68 : decode cX7_fairness 68 = .ok (.dmul, 1) := by decide +kernel
theorem dX7_fairness_69 : decode cX7_fairness 69 = .ok (.dadd, 1) := by decide +kernel
theorem dX7_fairness_70 : decode cX7_fairness 70 = .ok (.dstore_n 3, 1) := by decide +kernel
theorem dX7_fairness_71 : decode cX7_fairness 71 = .ok (.iinc 7 1, 3) := by decide +kernel
theorem dX7_fairness_74 : decode cX7_fairness 74 = .ok (.goto (-53), 3) := by decide +kernel
theorem dX7_fairness_77 : decode cX7_fairness 77 = .ok (.dload_n 3, 1) := by decide +kernel
theorem dX7_fairness_78 : decode cX7_fairness 78 = .ok (.dconst 0, 1) := by decide +kernel
theorem dX7_fairness_79 : decode cX7_fairness 79 = .ok (.dcmp .l, 1) := by decide +kernel
theorem dX7_fairness_80 : decode cX7_fairness 80 = .ok (.ifCond .le 30, 3) := by decide +kernel
theorem dX7_fairness_83 : decode cX7_fairness 83 = .ok (.aload_n 0, 1) := by decide +kernel
theorem dX7_fairness_84 : decode cX7_fairness 84 = .ok (.getfield 19, 3) := by decide +kernel
theorem dX7_fairness_87 : decode cX7_fairness 87 = .ok (.getfield 90, 3) := by decide +kernel
theorem dX7_fairness_90 : decode cX7_fairness 90 = .ok (.ifCond .le 20, 3) := by decide +kernel
theorem dX7_fairness_93 : decode cX7_fairness 93 = .ok (.dload_n 1, 1) := by decide +kernel
theorem dX7_fairness_94 : decode cX7_fairness 94 = .ok (.dload_n 1, 1) := by decide +kernel
theorem dX7_fairness_95 : decode cX7_fairness 95 = .ok (.dmul, 1) := by decide +kernel
theorem dX7_fairness_96 : decode cX7_fairness 96 = .ok (.aload_n 0, 1) := by decide +kernel
theorem dX7_fairness_97 : decode cX7_fairness 97 = .ok (.getfield 19, 3) := by decide +kernel
theorem dX7_fairness_100 : decode cX7_fairness 100 = .ok (.getfield 90, 3) := by decide +kernel
theorem dX7_fairness_103 : decode cX7_fairness 103 = .ok (.i2d, 1) := by decide +kernel
theorem dX7_fairness_104 : decode cX7_fairness 104 = .ok (.dload_n 3, 1) := by decide +kernel
theorem dX7_fairness_105 : decode cX7_fairness 105 = .ok (.dmul, 1) := by decide +kernel
theorem dX7_fairness_106 : decode cX7_fairness 106 = .ok (.ddiv, 1) := by decide +kernel
theorem dX7_fairness_107 : decode cX7_fairness 107 = .ok (.goto 4, 3) := by decide +kernel
theorem dX7_fairness_110 : decode cX7_fairness 110 = .ok (.dconst 1, 1) := by decide +kernel
theorem dX7_fairness_111 : decode cX7_fairness 111 = .ok (.dreturn, 1) := by decide +kernel
theorem dX7_meanQuality_0 : decode cX7_meanQuality 0 = .ok (.aload_n 0, 1) := by decide +kernel
theorem dX7_meanQuality_1 : decode cX7_meanQuality 1 = .ok (.iload_n 1, 1) := by decide +kernel
theorem dX7_meanQuality_2 : decode cX7_meanQuality 2 = .ok (.invokevirtual 135, 3) := by decide +kernel
theorem dX7_meanQuality_5 : decode cX7_meanQuality 5 = .ok (.astore_n 2, 1) := by decide +kernel
theorem dX7_meanQuality_6 : decode cX7_meanQuality 6 = .ok (.aload_n 2, 1) := by decide +kernel
theorem dX7_meanQuality_7 : decode cX7_meanQuality 7 = .ok (.getfield 147, 3) := by decide +kernel
theorem dX7_meanQuality_10 : decode cX7_meanQuality 10 = .ok (.ifCond .le 17, 3) := by decide +kernel
theorem dX7_meanQuality_13 : decode cX7_meanQuality 13 = .ok (.aload_n 2, 1) := by decide +kernel
theorem dX7_meanQuality_14 : decode cX7_meanQuality 14 = .ok (.invokevirtual 166, 3) := by decide +kernel
theorem dX7_meanQuality_17 : decode cX7_meanQuality 17 = .ok (.i2d, 1) := by decide +kernel
theorem dX7_meanQuality_18 : decode cX7_meanQuality 18 = .ok (.aload_n 2, 1) := by decide +kernel
theorem dX7_meanQuality_19 : decode cX7_meanQuality 19 = .ok (.getfield 147, 3) := by decide +kernel
theorem dX7_meanQuality_22 : decode cX7_meanQuality 22 = .ok (.i2d, 1) := by decide +kernel
theorem dX7_meanQuality_23 : decode cX7_meanQuality 23 = .ok (.ddiv, 1) := by decide +kernel
theorem dX7_meanQuality_24 : decode cX7_meanQuality 24 = .ok (.goto 4, 3) := by decide +kernel
theorem dX7_meanQuality_27 : decode cX7_meanQuality 27 = .ok (.dconst 0, 1) := by decide +kernel
theorem dX7_meanQuality_28 : decode cX7_meanQuality 28 = .ok (.dreturn, 1) := by decide +kernel
theorem dX7_isWhole_0 : decode cX7_isWhole 0 = .ok (.aload_n 0, 1) := by decide +kernel
theorem dX7_isWhole_1 : decode cX7_isWhole 1 = .ok (.getfield 28, 3) := by decide +kernel
theorem dX7_isWhole_4 : decode cX7_isWhole 4 = .ok (.invokevirtual 250, 3) := by decide +kernel
theorem dX7_isWhole_7 : decode cX7_isWhole 7 = .ok (.ireturn, 1) := by decide +kernel
theorem dX7_account_0 : decode cX7_account 0 = .ok (.iload_n 1, 1) := by decide +kernel
theorem dX7_account_1 : decode cX7_account 1 = .ok (.tableswitch 63 0 3 #[31, 39, 47, 55], 31) := by decide +kernel
theorem dX7_account_32 : decode cX7_account 32 = .ok (.aload_n 0, 1) := by decide +kernel
theorem dX7_account_33 : decode cX7_account 33 = .ok (.getfield 28, 3) := by decide +kernel
theorem dX7_account_36 : decode cX7_account 36 = .ok (.getfield 253, 3) := by decide +kernel
theorem dX7_account_39 : decode cX7_account 39 = .ok (.ireturn, 1) := by decide +kernel
theorem dX7_account_40 : decode cX7_account 40 = .ok (.aload_n 0, 1) := by decide +kernel
theorem dX7_account_41 : decode cX7_account 41 = .ok (.getfield 28, 3) := by decide +kernel
theorem dX7_account_44 : decode cX7_account 44 = .ok (.getfield 256, 3) := by decide +kernel
theorem dX7_account_47 : decode cX7_account 47 = .ok (.ireturn, 1) := by decide +kernel
theorem dX7_account_48 : decode cX7_account 48 = .ok (.aload_n 0, 1) := by decide +kernel
theorem dX7_account_49 : decode cX7_account 49 = .ok (.getfield 28, 3) := by decide +kernel
theorem dX7_account_52 : decode cX7_account 52 = .ok (.invokevirtual 259, 3) := by decide +kernel
theorem dX7_account_55 : decode cX7_account 55 = .ok (.ireturn, 1) := by decide +kernel
theorem dX7_account_56 : decode cX7_account 56 = .ok (.aload_n 0, 1) := by decide +kernel
theorem dX7_account_57 : decode cX7_account 57 = .ok (.getfield 28, 3) := by decide +kernel
theorem dX7_account_60 : decode cX7_account 60 = .ok (.invokevirtual 262, 3) := by decide +kernel
theorem dX7_account_63 : decode cX7_account 63 = .ok (.ireturn, 1) := by decide +kernel
theorem dX7_account_64 : decode cX7_account 64 = .ok (.new 71, 3) := by decide +kernel
theorem dX7_account_67 : decode cX7_account 67 = .ok (.dup, 1) := by decide +kernel
theorem dX7_account_68 : decode cX7_account 68 = .ok (.invokespecial 73, 3) := by decide +kernel
theorem dX7_account_71 : decode cX7_account 71 = .ok (.athrow, 1) := by decide +kernel
theorem dX7_run_0 : decode cX7_run 0 = .ok (.iload_n 1, 1) := by decide +kernel
theorem dX7_run_1 : decode cX7_run 1 = .ok (.iconst 1, 1) := by decide +kernel
theorem dX7_run_2 : decode cX7_run 2 = .ok (.if_icmp .lt 10, 3) := by decide +kernel
theorem dX7_run_5 : decode cX7_run 5 = .ok (.iload_n 1, 1) := by decide +kernel
theorem dX7_run_6 : decode cX7_run 6 = .ok (.sipush 200, 3) := by decide +kernel
theorem dX7_run_9 : decode cX7_run 9 = .ok (.if_icmp .le 11, 3) := by decide +kernel
theorem dX7_run_12 : decode cX7_run 12 = .ok (.new 71, 3) := by decide +kernel
theorem dX7_run_15 : decode cX7_run 15 = .ok (.dup, 1) := by decide +kernel
theorem dX7_run_16 : decode cX7_run 16 = .ok (.invokespecial 73, 3) := by decide +kernel
theorem dX7_run_19 : decode cX7_run 19 = .ok (.athrow, 1) := by decide +kernel
theorem dX7_run_20 : decode cX7_run 20 = .ok (.aload_n 0, 1) := by decide +kernel
theorem dX7_run_21 : decode cX7_run 21 = .ok (.getfield 28, 3) := by decide +kernel
theorem dX7_run_24 : decode cX7_run 24 = .ok (.getfield 111, 3) := by decide +kernel
theorem dX7_run_27 : decode cX7_run 27 = .ok (.iload_n 1, 1) := by decide +kernel
theorem dX7_run_28 : decode cX7_run 28 = .ok (.iadd, 1) := by decide +kernel
theorem dX7_run_29 : decode cX7_run 29 = .ok (.sipush 2000, 3) := by decide +kernel
theorem dX7_run_32 : decode cX7_run 32 = .ok (.if_icmp .le 11, 3) := by decide +kernel
theorem dX7_run_35 : decode cX7_run 35 = .ok (.new 265, 3) := by decide +kernel
theorem dX7_run_38 : decode cX7_run 38 = .ok (.dup, 1) := by decide +kernel
theorem dX7_run_39 : decode cX7_run 39 = .ok (.invokespecial 267, 3) := by decide +kernel
theorem dX7_run_42 : decode cX7_run 42 = .ok (.athrow, 1) := by decide +kernel
theorem dX7_run_43 : decode cX7_run 43 = .ok (.aload_n 0, 1) := by decide +kernel
theorem dX7_run_44 : decode cX7_run 44 = .ok (.getfield 44, 3) := by decide +kernel
theorem dX7_run_47 : decode cX7_run 47 = .ok (.aload_n 0, 1) := by decide +kernel
theorem dX7_run_48 : decode cX7_run 48 = .ok (.getfield 28, 3) := by decide +kernel
theorem dX7_run_51 : decode cX7_run 51 = .ok (.invokevirtual 268, 3) := by decide +kernel
theorem dX7_run_54 : decode cX7_run 54 = .ok (.iconst 0, 1) := by decide +kernel
theorem dX7_run_55 : decode cX7_run 55 = .ok (.istore_n 2, 1) := by decide +kernel
theorem dX7_run_56 : decode cX7_run 56 = .ok (.iload_n 2, 1) := by decide +kernel
theorem dX7_run_57 : decode cX7_run 57 = .ok (.iload_n 1, 1) := by decide +kernel
theorem dX7_run_58 : decode cX7_run 58 = .ok (.if_icmp .ge 16, 3) := by decide +kernel
theorem dX7_run_61 : decode cX7_run 61 = .ok (.aload_n 0, 1) := by decide +kernel
theorem dX7_run_62 : decode cX7_run 62 = .ok (.getfield 28, 3) := by decide +kernel
theorem dX7_run_65 : decode cX7_run 65 = .ok (.invokevirtual 271, 3) := by decide +kernel
theorem dX7_run_68 : decode cX7_run 68 = .ok (.iinc 2 1, 3) := by decide +kernel
theorem dX7_run_71 : decode cX7_run 71 = .ok (.goto (-15), 3) := by decide +kernel
theorem dX7_run_74 : decode cX7_run 74 = .ok (.aload_n 0, 1) := by decide +kernel
theorem dX7_run_75 : decode cX7_run 75 = .ok (.getfield 28, 3) := by decide +kernel
theorem dX7_run_78 : decode cX7_run 78 = .ok (.getfield 111, 3) := by decide +kernel
theorem dX7_run_81 : decode cX7_run 81 = .ok (.ireturn, 1) := by decide +kernel
theorem dX7_setRule_0 : decode cX7_setRule 0 = .ok (.aload_n 0, 1) := by decide +kernel
theorem dX7_setRule_1 : decode cX7_setRule 1 = .ok (.iload_n 1, 1) := by decide +kernel
theorem dX7_setRule_2 : decode cX7_setRule 2 = .ok (.invokevirtual 135, 3) := by decide +kernel
theorem dX7_setRule_5 : decode cX7_setRule 5 = .ok (.astore_n 3, 1) := by decide +kernel
theorem dX7_setRule_6 : decode cX7_setRule 6 = .ok (.iload_n 2, 1) := by decide +kernel
theorem dX7_setRule_7 : decode cX7_setRule 7 = .ok (.ifCond .lt 8, 3) := by decide +kernel
theorem dX7_setRule_10 : decode cX7_setRule 10 = .ok (.iload_n 2, 1) := by decide +kernel
theorem dX7_setRule_11 : decode cX7_setRule 11 = .ok (.iconst 3, 1) := by decide +kernel
theorem dX7_setRule_12 : decode cX7_setRule 12 = .ok (.if_icmp .le 11, 3) := by decide +kernel
theorem dX7_setRule_15 : decode cX7_setRule 15 = .ok (.new 71, 3) := by decide +kernel
theorem dX7_setRule_18 : decode cX7_setRule 18 = .ok (.dup, 1) := by decide +kernel
theorem dX7_setRule_19 : decode cX7_setRule 19 = .ok (.invokespecial 73, 3) := by decide +kernel
theorem dX7_setRule_22 : decode cX7_setRule 22 = .ok (.athrow, 1) := by decide +kernel
theorem dX7_setRule_23 : decode cX7_setRule 23 = .ok (.aload_n 0, 1) := by decide +kernel
theorem dX7_setRule_24 : decode cX7_setRule 24 = .ok (.getfield 44, 3) := by decide +kernel
theorem dX7_setRule_27 : decode cX7_setRule 27 = .ok (.aload_n 0, 1) := by decide +kernel
theorem dX7_setRule_28 : decode cX7_setRule 28 = .ok (.getfield 28, 3) := by decide +kernel
theorem dX7_setRule_31 : decode cX7_setRule 31 = .ok (.invokevirtual 268, 3) := by decide +kernel
theorem dX7_setRule_34 : decode cX7_setRule 34 = .ok (.aload_n 3, 1) := by decide +kernel
theorem dX7_setRule_35 : decode cX7_setRule 35 = .ok (.getfield 175, 3) := by decide +kernel
theorem dX7_setRule_38 : decode cX7_setRule 38 = .ok (.istore 4, 2) := by decide +kernel
theorem dX7_setRule_40 : decode cX7_setRule 40 = .ok (.aload_n 3, 1) := by decide +kernel
theorem dX7_setRule_41 : decode cX7_setRule 41 = .ok (.iload_n 2, 1) := by decide +kernel
theorem dX7_setRule_42 : decode cX7_setRule 42 = .ok (.putfield 175, 3) := by decide +kernel
theorem dX7_setRule_45 : decode cX7_setRule 45 = .ok (.iload 4, 2) := by decide +kernel
theorem dX7_setRule_47 : decode cX7_setRule 47 = .ok (.ireturn, 1) := by decide +kernel
theorem dX7_setWeight_0 : decode cX7_setWeight 0 = .ok (.aload_n 0, 1) := by decide +kernel
theorem dX7_setWeight_1 : decode cX7_setWeight 1 = .ok (.iload_n 1, 1) := by decide +kernel
theorem dX7_setWeight_2 : decode cX7_setWeight 2 = .ok (.invokevirtual 135, 3) := by decide +kernel
theorem dX7_setWeight_5 : decode cX7_setWeight 5 = .ok (.astore_n 3, 1) := by decide +kernel
theorem dX7_setWeight_6 : decode cX7_setWeight 6 = .ok (.iload_n 2, 1) := by decide +kernel
theorem dX7_setWeight_7 : decode cX7_setWeight 7 = .ok (.iconst 1, 1) := by decide +kernel
theorem dX7_setWeight_8 : decode cX7_setWeight 8 = .ok (.if_icmp .lt 9, 3) := by decide +kernel
theorem dX7_setWeight_11 : decode cX7_setWeight 11 = .ok (.iload_n 2, 1) := by decide +kernel
theorem dX7_setWeight_12 : decode cX7_setWeight 12 = .ok (.bipush 9, 2) := by decide +kernel
theorem dX7_setWeight_14 : decode cX7_setWeight 14 = .ok (.if_icmp .le 11, 3) := by decide +kernel
theorem dX7_setWeight_17 : decode cX7_setWeight 17 = .ok (.new 71, 3) := by decide +kernel
theorem dX7_setWeight_20 : decode cX7_setWeight 20 = .ok (.dup, 1) := by decide +kernel
theorem dX7_setWeight_21 : decode cX7_setWeight 21 = .ok (.invokespecial 73, 3) := by decide +kernel
theorem dX7_setWeight_24 : decode cX7_setWeight 24 = .ok (.athrow, 1) := by decide +kernel
theorem dX7_setWeight_25 : decode cX7_setWeight 25 = .ok (.aload_n 0, 1) := by decide +kernel
theorem dX7_setWeight_26 : decode cX7_setWeight 26 = .ok (.getfield 44, 3) := by decide +kernel
theorem dX7_setWeight_29 : decode cX7_setWeight 29 = .ok (.aload_n 0, 1) := by decide +kernel
theorem dX7_setWeight_30 : decode cX7_setWeight 30 = .ok (.getfield 28, 3) := by decide +kernel
theorem dX7_setWeight_33 : decode cX7_setWeight 33 = .ok (.invokevirtual 268, 3) := by decide +kernel
theorem dX7_setWeight_36 : decode cX7_setWeight 36 = .ok (.aload_n 3, 1) := by decide +kernel
theorem dX7_setWeight_37 : decode cX7_setWeight 37 = .ok (.getfield 178, 3) := by decide +kernel
theorem dX7_setWeight_40 : decode cX7_setWeight 40 = .ok (.istore 4, 2) := by decide +kernel
theorem dX7_setWeight_42 : decode cX7_setWeight 42 = .ok (.aload_n 3, 1) := by decide +kernel
theorem dX7_setWeight_43 : decode cX7_setWeight 43 = .ok (.iload_n 2, 1) := by decide +kernel
theorem dX7_setWeight_44 : decode cX7_setWeight 44 = .ok (.putfield 178, 3) := by decide +kernel
theorem dX7_setWeight_47 : decode cX7_setWeight 47 = .ok (.iload 4, 2) := by decide +kernel
theorem dX7_setWeight_49 : decode cX7_setWeight 49 = .ok (.ireturn, 1) := by decide +kernel
theorem dX7_setRate_0 : decode cX7_setRate 0 = .ok (.iload_n 1, 1) := by decide +kernel
theorem dX7_setRate_1 : decode cX7_setRate 1 = .ok (.ifCond .lt 26, 3) := by decide +kernel
theorem dX7_setRate_4 : decode cX7_setRate 4 = .ok (.iload_n 1, 1) := by decide +kernel
theorem dX7_setRate_5 : decode cX7_setRate 5 = .ok (.aload_n 0, 1) := by decide +kernel
theorem dX7_setRate_6 : decode cX7_setRate 6 = .ok (.getfield 19, 3) := by decide +kernel
theorem dX7_setRate_9 : decode cX7_setRate 9 = .ok (.getfield 93, 3) := by decide +kernel
theorem dX7_setRate_12 : decode cX7_setRate 12 = .ok (.if_icmp .ge 15, 3) := by decide +kernel
theorem dX7_setRate_15 : decode cX7_setRate 15 = .ok (.iload_n 1, 1) := by decide +kernel
theorem dX7_setRate_16 : decode cX7_setRate 16 = .ok (.aload_n 0, 1) := by decide +kernel
theorem dX7_setRate_17 : decode cX7_setRate 17 = .ok (.getfield 28, 3) := by decide +kernel
theorem dX7_setRate_20 : decode cX7_setRate 20 = .ok (.getfield 274, 3) := by decide +kernel
theorem dX7_setRate_23 : decode cX7_setRate 23 = .ok (.arraylength, 1) := by decide +kernel
theorem dX7_setRate_24 : decode cX7_setRate 24 = .ok (.if_icmp .lt 11, 3) := by decide +kernel
theorem dX7_setRate_27 : decode cX7_setRate 27 = .ok (.new 277, 3) := by decide +kernel
theorem dX7_setRate_30 : decode cX7_setRate 30 = .ok (.dup, 1) := by decide +kernel
theorem dX7_setRate_31 : decode cX7_setRate 31 = .ok (.invokespecial 279, 3) := by decide +kernel
theorem dX7_setRate_34 : decode cX7_setRate 34 = .ok (.athrow, 1) := by decide +kernel
theorem dX7_setRate_35 : decode cX7_setRate 35 = .ok (.iload_n 2, 1) := by decide +kernel
theorem dX7_setRate_36 : decode cX7_setRate 36 = .ok (.ifCond .lt 10, 3) := by decide +kernel
theorem dX7_setRate_39 : decode cX7_setRate 39 = .ok (.iload_n 2, 1) := by decide +kernel
theorem dX7_setRate_40 : decode cX7_setRate 40 = .ok (.sipush 9999, 3) := by decide +kernel
theorem dX7_setRate_43 : decode cX7_setRate 43 = .ok (.if_icmp .le 11, 3) := by decide +kernel
theorem dX7_setRate_46 : decode cX7_setRate 46 = .ok (.new 71, 3) := by decide +kernel
theorem dX7_setRate_49 : decode cX7_setRate 49 = .ok (.dup, 1) := by decide +kernel
theorem dX7_setRate_50 : decode cX7_setRate 50 = .ok (.invokespecial 73, 3) := by decide +kernel
theorem dX7_setRate_53 : decode cX7_setRate 53 = .ok (.athrow, 1) := by decide +kernel
theorem dX7_setRate_54 : decode cX7_setRate 54 = .ok (.aload_n 0, 1) := by decide +kernel
theorem dX7_setRate_55 : decode cX7_setRate 55 = .ok (.getfield 44, 3) := by decide +kernel
theorem dX7_setRate_58 : decode cX7_setRate 58 = .ok (.aload_n 0, 1) := by decide +kernel
theorem dX7_setRate_59 : decode cX7_setRate 59 = .ok (.getfield 28, 3) := by decide +kernel
theorem dX7_setRate_62 : decode cX7_setRate 62 = .ok (.invokevirtual 268, 3) := by decide +kernel
theorem dX7_setRate_65 : decode cX7_setRate 65 = .ok (.aload_n 0, 1) := by decide +kernel
theorem dX7_setRate_66 : decode cX7_setRate 66 = .ok (.getfield 28, 3) := by decide +kernel
theorem dX7_setRate_69 : decode cX7_setRate 69 = .ok (.getfield 274, 3) := by decide +kernel
theorem dX7_setRate_72 : decode cX7_setRate 72 = .ok (.iload_n 1, 1) := by decide +kernel
theorem dX7_setRate_73 : decode cX7_setRate 73 = .ok (.iaload, 1) := by decide +kernel
theorem dX7_setRate_74 : decode cX7_setRate 74 = .ok (.istore_n 3, 1) := by decide +kernel
theorem dX7_setRate_75 : decode cX7_setRate 75 = .ok (.aload_n 0, 1) := by decide +kernel
theorem dX7_setRate_76 : decode cX7_setRate 76 = .ok (.getfield 28, 3) := by decide +kernel
theorem dX7_setRate_79 : decode cX7_setRate 79 = .ok (.getfield 274, 3) := by decide +kernel
theorem dX7_setRate_82 : decode cX7_setRate 82 = .ok (.iload_n 1, 1) := by decide +kernel
theorem dX7_setRate_83 : decode cX7_setRate 83 = .ok (.iload_n 2, 1) := by decide +kernel
theorem dX7_setRate_84 : decode cX7_setRate 84 = .ok (.iastore, 1) := by decide +kernel
theorem dX7_setRate_85 : decode cX7_setRate 85 = .ok (.iload_n 3, 1) := by decide +kernel
theorem dX7_setRate_86 : decode cX7_setRate 86 = .ok (.ireturn, 1) := by decide +kernel
theorem dX7_quit_0 : decode cX7_quit 0 = .ok (.aload_n 0, 1) := by decide +kernel
theorem dX7_quit_1 : decode cX7_quit 1 = .ok (.iload_n 1, 1) := by decide +kernel
theorem dX7_quit_2 : decode cX7_quit 2 = .ok (.invokevirtual 135, 3) := by decide +kernel
theorem dX7_quit_5 : decode cX7_quit 5 = .ok (.astore_n 2, 1) := by decide +kernel
theorem dX7_quit_6 : decode cX7_quit 6 = .ok (.aload_n 2, 1) := by decide +kernel
theorem dX7_quit_7 : decode cX7_quit 7 = .ok (.invokevirtual 280, 3) := by decide +kernel
theorem dX7_quit_10 : decode cX7_quit 10 = .ok (.ifCond .ne 11, 3) := by decide +kernel
theorem dX7_quit_13 : decode cX7_quit 13 = .ok (.new 265, 3) := by decide +kernel
theorem dX7_quit_16 : decode cX7_quit 16 = .ok (.dup, 1) := by decide +kernel
theorem dX7_quit_17 : decode cX7_quit 17 = .ok (.invokespecial 267, 3) := by decide +kernel
theorem dX7_quit_20 : decode cX7_quit 20 = .ok (.athrow, 1) := by decide +kernel
theorem dX7_quit_21 : decode cX7_quit 21 = .ok (.aload_n 0, 1) := by decide +kernel
theorem dX7_quit_22 : decode cX7_quit 22 = .ok (.getfield 44, 3) := by decide +kernel
theorem dX7_quit_25 : decode cX7_quit 25 = .ok (.aload_n 0, 1) := by decide +kernel
theorem dX7_quit_26 : decode cX7_quit 26 = .ok (.getfield 28, 3) := by decide +kernel
theorem dX7_quit_29 : decode cX7_quit 29 = .ok (.invokevirtual 268, 3) := by decide +kernel
theorem dX7_quit_32 : decode cX7_quit 32 = .ok (.aload_n 2, 1) := by decide +kernel
theorem dX7_quit_33 : decode cX7_quit 33 = .ok (.iconst 4, 1) := by decide +kernel
theorem dX7_quit_34 : decode cX7_quit 34 = .ok (.putfield 139, 3) := by decide +kernel
theorem dX7_quit_37 : decode cX7_quit 37 = .ok (.aload_n 2, 1) := by decide +kernel
theorem dX7_quit_38 : decode cX7_quit 38 = .ok (.invokevirtual 283, 3) := by decide +kernel
theorem dX7_quit_41 : decode cX7_quit 41 = .ok (.ireturn, 1) := by decide +kernel
theorem dX7_undo_0 : decode cX7_undo 0 = .ok (.aload_n 0, 1) := by decide +kernel
theorem dX7_undo_1 : decode cX7_undo 1 = .ok (.getfield 44, 3) := by decide +kernel
theorem dX7_undo_4 : decode cX7_undo 4 = .ok (.aload_n 0, 1) := by decide +kernel
theorem dX7_undo_5 : decode cX7_undo 5 = .ok (.getfield 28, 3) := by decide +kernel
theorem dX7_undo_8 : decode cX7_undo 8 = .ok (.invokevirtual 286, 3) := by decide +kernel
theorem dX7_undo_11 : decode cX7_undo 11 = .ok (.ifCond .eq 13, 3) := by decide +kernel
theorem dX7_undo_14 : decode cX7_undo 14 = .ok (.aload_n 0, 1) := by decide +kernel
theorem dX7_undo_15 : decode cX7_undo 15 = .ok (.getfield 44, 3) := by decide +kernel
theorem dX7_undo_18 : decode cX7_undo 18 = .ok (.getfield 121, 3) := by decide +kernel
theorem dX7_undo_21 : decode cX7_undo 21 = .ok (.goto 4, 3) := by decide +kernel
theorem dX7_undo_24 : decode cX7_undo 24 = .ok (.iconst (-1), 1) := by decide +kernel
theorem dX7_undo_25 : decode cX7_undo 25 = .ok (.ireturn, 1) := by decide +kernel
theorem dX7_saveSnapshot_0 : decode cX7_saveSnapshot 0 = .ok (.aload_n 0, 1) := by decide +kernel
theorem dX7_saveSnapshot_1 : decode cX7_saveSnapshot 1 = .ok (.iload_n 1, 1) := by decide +kernel
theorem dX7_saveSnapshot_2 : decode cX7_saveSnapshot 2 = .ok (.invokevirtual 290, 3) := by decide +kernel
theorem dX7_saveSnapshot_5 : decode cX7_saveSnapshot 5 = .ok (.aload_n 0, 1) := by decide +kernel
theorem dX7_saveSnapshot_6 : decode cX7_saveSnapshot 6 = .ok (.getfield 52, 3) := by decide +kernel
theorem dX7_saveSnapshot_9 : decode cX7_saveSnapshot 9 = .ok (.iload_n 1, 1) := by decide +kernel
theorem dX7_saveSnapshot_10 : decode cX7_saveSnapshot 10 = .ok (.baload, 1) := by decide +kernel
theorem dX7_saveSnapshot_11 : decode cX7_saveSnapshot 11 = .ok (.istore_n 2, 1) := by decide +kernel
theorem dX7_saveSnapshot_12 : decode cX7_saveSnapshot 12 = .ok (.aload_n 0, 1) := by decide +kernel
theorem dX7_saveSnapshot_13 : decode cX7_saveSnapshot 13 = .ok (.getfield 48, 3) := by decide +kernel
theorem dX7_saveSnapshot_16 : decode cX7_saveSnapshot 16 = .ok (.iload_n 1, 1) := by decide +kernel
theorem dX7_saveSnapshot_17 : decode cX7_saveSnapshot 17 = .ok (.aaload, 1) := by decide +kernel
theorem dX7_saveSnapshot_18 : decode cX7_saveSnapshot 18 = .ok (.aload_n 0, 1) := by decide +kernel
theorem dX7_saveSnapshot_19 : decode cX7_saveSnapshot 19 = .ok (.getfield 28, 3) := by decide +kernel
theorem dX7_saveSnapshot_22 : decode cX7_saveSnapshot 22 = .ok (.invokevirtual 293, 3) := by decide +kernel
theorem dX7_saveSnapshot_25 : decode cX7_saveSnapshot 25 = .ok (.aload_n 0, 1) := by decide +kernel
theorem dX7_saveSnapshot_26 : decode cX7_saveSnapshot 26 = .ok (.getfield 52, 3) := by decide +kernel
theorem dX7_saveSnapshot_29 : decode cX7_saveSnapshot 29 = .ok (.iload_n 1, 1) := by decide +kernel
theorem dX7_saveSnapshot_30 : decode cX7_saveSnapshot 30 = .ok (.iconst 1, 1) := by decide +kernel
theorem dX7_saveSnapshot_31 : decode cX7_saveSnapshot 31 = .ok (.bastore, 1) := by decide +kernel
theorem dX7_saveSnapshot_32 : decode cX7_saveSnapshot 32 = .ok (.iload_n 2, 1) := by decide +kernel
theorem dX7_saveSnapshot_33 : decode cX7_saveSnapshot 33 = .ok (.ireturn, 1) := by decide +kernel
theorem dX7_restoreSnapshot_0 : decode cX7_restoreSnapshot 0 = .ok (.aload_n 0, 1) := by decide +kernel
theorem dX7_restoreSnapshot_1 : decode cX7_restoreSnapshot 1 = .ok (.iload_n 1, 1) := by decide +kernel
theorem dX7_restoreSnapshot_2 : decode cX7_restoreSnapshot 2 = .ok (.invokevirtual 290, 3) := by decide +kernel
theorem dX7_restoreSnapshot_5 : decode cX7_restoreSnapshot 5 = .ok (.aload_n 0, 1) := by decide +kernel
theorem dX7_restoreSnapshot_6 : decode cX7_restoreSnapshot 6 = .ok (.getfield 52, 3) := by decide +kernel
theorem dX7_restoreSnapshot_9 : decode cX7_restoreSnapshot 9 = .ok (.iload_n 1, 1) := by decide +kernel
theorem dX7_restoreSnapshot_10 : decode cX7_restoreSnapshot 10 = .ok (.baload, 1) := by decide +kernel
theorem dX7_restoreSnapshot_11 : decode cX7_restoreSnapshot 11 = .ok (.ifCond .ne 11, 3) := by decide +kernel
theorem dX7_restoreSnapshot_14 : decode cX7_restoreSnapshot 14 = .ok (.new 265, 3) := by decide +kernel
theorem dX7_restoreSnapshot_17 : decode cX7_restoreSnapshot 17 = .ok (.dup, 1) := by decide +kernel
theorem dX7_restoreSnapshot_18 : decode cX7_restoreSnapshot 18 = .ok (.invokespecial 267, 3) := by decide +kernel
theorem dX7_restoreSnapshot_21 : decode cX7_restoreSnapshot 21 = .ok (.athrow, 1) := by decide +kernel
theorem dX7_restoreSnapshot_22 : decode cX7_restoreSnapshot 22 = .ok (.aload_n 0, 1) := by decide +kernel
theorem dX7_restoreSnapshot_23 : decode cX7_restoreSnapshot 23 = .ok (.getfield 28, 3) := by decide +kernel
theorem dX7_restoreSnapshot_26 : decode cX7_restoreSnapshot 26 = .ok (.aload_n 0, 1) := by decide +kernel
theorem dX7_restoreSnapshot_27 : decode cX7_restoreSnapshot 27 = .ok (.getfield 48, 3) := by decide +kernel
theorem dX7_restoreSnapshot_30 : decode cX7_restoreSnapshot 30 = .ok (.iload_n 1, 1) := by decide +kernel
theorem dX7_restoreSnapshot_31 : decode cX7_restoreSnapshot 31 = .ok (.aaload, 1) := by decide +kernel
theorem dX7_restoreSnapshot_32 : decode cX7_restoreSnapshot 32 = .ok (.invokevirtual 293, 3) := by decide +kernel
theorem dX7_restoreSnapshot_35 : decode cX7_restoreSnapshot 35 = .ok (.aload_n 0, 1) := by decide +kernel
theorem dX7_restoreSnapshot_36 : decode cX7_restoreSnapshot 36 = .ok (.getfield 44, 3) := by decide +kernel
theorem dX7_restoreSnapshot_39 : decode cX7_restoreSnapshot 39 = .ok (.invokevirtual 84, 3) := by decide +kernel
theorem dX7_restoreSnapshot_42 : decode cX7_restoreSnapshot 42 = .ok (.aload_n 0, 1) := by decide +kernel
theorem dX7_restoreSnapshot_43 : decode cX7_restoreSnapshot 43 = .ok (.getfield 28, 3) := by decide +kernel
theorem dX7_restoreSnapshot_46 : decode cX7_restoreSnapshot 46 = .ok (.getfield 111, 3) := by decide +kernel
theorem dX7_restoreSnapshot_49 : decode cX7_restoreSnapshot 49 = .ok (.ireturn, 1) := by decide +kernel
theorem dX7_testPlayer_0 : decode cX7_testPlayer 0 = .ok (.iload_n 1, 1) := by decide +kernel
theorem dX7_testPlayer_1 : decode cX7_testPlayer 1 = .ok (.ifCond .lt 14, 3) := by decide +kernel
theorem dX7_testPlayer_4 : decode cX7_testPlayer 4 = .ok (.iload_n 1, 1) := by decide +kernel
theorem dX7_testPlayer_5 : decode cX7_testPlayer 5 = .ok (.aload_n 0, 1) := by decide +kernel
theorem dX7_testPlayer_6 : decode cX7_testPlayer 6 = .ok (.getfield 19, 3) := by decide +kernel
theorem dX7_testPlayer_9 : decode cX7_testPlayer 9 = .ok (.getfield 90, 3) := by decide +kernel
theorem dX7_testPlayer_12 : decode cX7_testPlayer 12 = .ok (.if_icmp .lt 11, 3) := by decide +kernel
theorem dX7_testPlayer_15 : decode cX7_testPlayer 15 = .ok (.new 277, 3) := by decide +kernel
theorem dX7_testPlayer_18 : decode cX7_testPlayer 18 = .ok (.dup, 1) := by decide +kernel
theorem dX7_testPlayer_19 : decode cX7_testPlayer 19 = .ok (.invokespecial 279, 3) := by decide +kernel
theorem dX7_testPlayer_22 : decode cX7_testPlayer 22 = .ok (.athrow, 1) := by decide +kernel
theorem dX7_testPlayer_23 : decode cX7_testPlayer 23 = .ok (.return_, 1) := by decide +kernel
theorem dX7_seatOf_0 : decode cX7_seatOf 0 = .ok (.aload_n 0, 1) := by decide +kernel
theorem dX7_seatOf_1 : decode cX7_seatOf 1 = .ok (.iload_n 1, 1) := by decide +kernel
theorem dX7_seatOf_2 : decode cX7_seatOf 2 = .ok (.invokevirtual 222, 3) := by decide +kernel
theorem dX7_seatOf_5 : decode cX7_seatOf 5 = .ok (.aload_n 0, 1) := by decide +kernel
theorem dX7_seatOf_6 : decode cX7_seatOf 6 = .ok (.getfield 28, 3) := by decide +kernel
theorem dX7_seatOf_9 : decode cX7_seatOf 9 = .ok (.iload_n 1, 1) := by decide +kernel
theorem dX7_seatOf_10 : decode cX7_seatOf 10 = .ok (.invokevirtual 219, 3) := by decide +kernel
theorem dX7_seatOf_13 : decode cX7_seatOf 13 = .ok (.areturn, 1) := by decide +kernel
theorem dX7_testSlot_0 : decode cX7_testSlot 0 = .ok (.iload_n 1, 1) := by decide +kernel
theorem dX7_testSlot_1 : decode cX7_testSlot 1 = .ok (.ifCond .lt 21, 3) := by decide +kernel
theorem dX7_testSlot_4 : decode cX7_testSlot 4 = .ok (.iload_n 1, 1) := by decide +kernel
theorem dX7_testSlot_5 : decode cX7_testSlot 5 = .ok (.aload_n 0, 1) := by decide +kernel
theorem dX7_testSlot_6 : decode cX7_testSlot 6 = .ok (.getfield 48, 3) := by decide +kernel
theorem dX7_testSlot_9 : decode cX7_testSlot 9 = .ok (.arraylength, 1) := by decide +kernel
theorem dX7_testSlot_10 : decode cX7_testSlot 10 = .ok (.if_icmp .ge 12, 3) := by decide +kernel
theorem dX7_testSlot_13 : decode cX7_testSlot 13 = .ok (.iload_n 1, 1) := by decide +kernel
theorem dX7_testSlot_14 : decode cX7_testSlot 14 = .ok (.aload_n 0, 1) := by decide +kernel
theorem dX7_testSlot_15 : decode cX7_testSlot 15 = .ok (.getfield 52, 3) := by decide +kernel
theorem dX7_testSlot_18 : decode cX7_testSlot 18 = .ok (.arraylength, 1) := by decide +kernel
theorem dX7_testSlot_19 : decode cX7_testSlot 19 = .ok (.if_icmp .lt 11, 3) := by decide +kernel
theorem dX7_testSlot_22 : decode cX7_testSlot 22 = .ok (.new 277, 3) := by decide +kernel
theorem dX7_testSlot_25 : decode cX7_testSlot 25 = .ok (.dup, 1) := by decide +kernel
theorem dX7_testSlot_26 : decode cX7_testSlot 26 = .ok (.invokespecial 279, 3) := by decide +kernel
theorem dX7_testSlot_29 : decode cX7_testSlot 29 = .ok (.athrow, 1) := by decide +kernel
theorem dX7_testSlot_30 : decode cX7_testSlot 30 = .ok (.return_, 1) := by decide +kernel
theorem dX7_copyRow_0 : decode cX7_copyRow 0 = .ok (.iconst 0, 1) := by decide +kernel
theorem dX7_copyRow_1 : decode cX7_copyRow 1 = .ok (.istore_n 2, 1) := by decide +kernel
theorem dX7_copyRow_2 : decode cX7_copyRow 2 = .ok (.iload_n 2, 1) := by decide +kernel
theorem dX7_copyRow_3 : decode cX7_copyRow 3 = .ok (.aload_n 0, 1) := by decide +kernel
theorem dX7_copyRow_4 : decode cX7_copyRow 4 = .ok (.arraylength, 1) := by decide +kernel
theorem dX7_copyRow_5 : decode cX7_copyRow 5 = .ok (.if_icmp .ge 21, 3) := by decide +kernel
theorem dX7_copyRow_8 : decode cX7_copyRow 8 = .ok (.iload_n 2, 1) := by decide +kernel
theorem dX7_copyRow_9 : decode cX7_copyRow 9 = .ok (.aload_n 1, 1) := by decide +kernel
theorem dX7_copyRow_10 : decode cX7_copyRow 10 = .ok (.arraylength, 1) := by decide +kernel
theorem dX7_copyRow_11 : decode cX7_copyRow 11 = .ok (.if_icmp .ge 15, 3) := by decide +kernel
theorem dX7_copyRow_14 : decode cX7_copyRow 14 = .ok (.aload_n 1, 1) := by decide +kernel
theorem dX7_copyRow_15 : decode cX7_copyRow 15 = .ok (.iload_n 2, 1) := by decide +kernel
theorem dX7_copyRow_16 : decode cX7_copyRow 16 = .ok (.aload_n 0, 1) := by decide +kernel
theorem dX7_copyRow_17 : decode cX7_copyRow 17 = .ok (.iload_n 2, 1) := by decide +kernel
theorem dX7_copyRow_18 : decode cX7_copyRow 18 = .ok (.iaload, 1) := by decide +kernel
theorem dX7_copyRow_19 : decode cX7_copyRow 19 = .ok (.iastore, 1) := by decide +kernel
theorem dX7_copyRow_20 : decode cX7_copyRow 20 = .ok (.iinc 2 1, 3) := by decide +kernel
theorem dX7_copyRow_23 : decode cX7_copyRow 23 = .ok (.goto (-21), 3) := by decide +kernel
theorem dX7_copyRow_26 : decode cX7_copyRow 26 = .ok (.return_, 1) := by decide +kernel
theorem dX7_clearRow_0 : decode cX7_clearRow 0 = .ok (.iconst 0, 1) := by decide +kernel
theorem dX7_clearRow_1 : decode cX7_clearRow 1 = .ok (.istore_n 1, 1) := by decide +kernel
theorem dX7_clearRow_2 : decode cX7_clearRow 2 = .ok (.iload_n 1, 1) := by decide +kernel
theorem dX7_clearRow_3 : decode cX7_clearRow 3 = .ok (.aload_n 0, 1) := by decide +kernel
theorem dX7_clearRow_4 : decode cX7_clearRow 4 = .ok (.arraylength, 1) := by decide +kernel
theorem dX7_clearRow_5 : decode cX7_clearRow 5 = .ok (.if_icmp .ge 13, 3) := by decide +kernel
theorem dX7_clearRow_8 : decode cX7_clearRow 8 = .ok (.aload_n 0, 1) := by decide +kernel
theorem dX7_clearRow_9 : decode cX7_clearRow 9 = .ok (.iload_n 1, 1) := by decide +kernel
theorem dX7_clearRow_10 : decode cX7_clearRow 10 = .ok (.iconst 0, 1) := by decide +kernel
theorem dX7_clearRow_11 : decode cX7_clearRow 11 = .ok (.iastore, 1) := by decide +kernel
theorem dX7_clearRow_12 : decode cX7_clearRow 12 = .ok (.iinc 1 1, 3) := by decide +kernel
theorem dX7_clearRow_15 : decode cX7_clearRow 15 = .ok (.goto (-13), 3) := by decide +kernel
theorem dX7_clearRow_18 : decode cX7_clearRow 18 = .ok (.return_, 1) := by decide +kernel
theorem dX8_init_0 : decode cX8_init 0 = .ok (.aload_n 0, 1) := by decide +kernel
theorem dX8_init_1 : decode cX8_init 1 = .ok (.invokespecial 1, 3) := by decide +kernel
theorem dX8_init_4 : decode cX8_init 4 = .ok (.aload_n 0, 1) := by decide +kernel
theorem dX8_init_5 : decode cX8_init 5 = .ok (.bipush 47, 2) := by decide +kernel
theorem dX8_init_7 : decode cX8_init 7 = .ok (.newarray .int, 2) := by decide +kernel
theorem dX8_init_9 : decode cX8_init 9 = .ok (.putfield 7, 3) := by decide +kernel
theorem dX8_init_12 : decode cX8_init 12 = .ok (.aload_n 0, 1) := by decide +kernel
theorem dX8_init_13 : decode cX8_init 13 = .ok (.iconst 4, 1) := by decide +kernel
theorem dX8_init_14 : decode cX8_init 14 = .ok (.newarray .long, 2) := by decide +kernel
theorem dX8_init_16 : decode cX8_init 16 = .ok (.putfield 13, 3) := by decide +kernel
theorem dX8_init_19 : decode cX8_init 19 = .ok (.aload_n 0, 1) := by decide +kernel
theorem dX8_init_20 : decode cX8_init 20 = .ok (.sipush 437, 3) := by decide +kernel
theorem dX8_init_23 : decode cX8_init 23 = .ok (.newarray .int, 2) := by decide +kernel
theorem dX8_init_25 : decode cX8_init 25 = .ok (.putfield 17, 3) := by decide +kernel
theorem dX8_init_28 : decode cX8_init 28 = .ok (.aload_n 0, 1) := by decide +kernel
theorem dX8_init_29 : decode cX8_init 29 = .ok (.sipush 600, 3) := by decide +kernel
theorem dX8_init_32 : decode cX8_init 32 = .ok (.newarray .byte, 2) := by decide +kernel
theorem dX8_init_34 : decode cX8_init 34 = .ok (.putfield 20, 3) := by decide +kernel
theorem dX8_init_37 : decode cX8_init 37 = .ok (.aload_n 0, 1) := by decide +kernel
theorem dX8_init_38 : decode cX8_init 38 = .ok (.iconst (-1), 1) := by decide +kernel
theorem dX8_init_39 : decode cX8_init 39 = .ok (.putfield 24, 3) := by decide +kernel
theorem dX8_init_42 : decode cX8_init 42 = .ok (.aload_n 0, 1) := by decide +kernel
theorem dX8_init_43 : decode cX8_init 43 = .ok (.bipush 47, 2) := by decide +kernel
theorem dX8_init_45 : decode cX8_init 45 = .ok (.newarray .int, 2) := by decide +kernel
theorem dX8_init_47 : decode cX8_init 47 = .ok (.putfield 28, 3) := by decide +kernel
theorem dX8_init_50 : decode cX8_init 50 = .ok (.aload_n 0, 1) := by decide +kernel
theorem dX8_init_51 : decode cX8_init 51 = .ok (.bipush 8, 2) := by decide +kernel
theorem dX8_init_53 : decode cX8_init 53 = .ok (.newarray .int, 2) := by decide +kernel
theorem dX8_init_55 : decode cX8_init 55 = .ok (.putfield 31, 3) := by decide +kernel
theorem dX8_init_58 : decode cX8_init 58 = .ok (.aload_n 0, 1) := by decide +kernel
theorem dX8_init_59 : decode cX8_init 59 = .ok (.iconst 4, 1) := by decide +kernel
theorem dX8_init_60 : decode cX8_init 60 = .ok (.newarray .int, 2) := by decide +kernel
theorem dX8_init_62 : decode cX8_init 62 = .ok (.putfield 34, 3) := by decide +kernel
theorem dX8_init_65 : decode cX8_init 65 = .ok (.aload_n 0, 1) := by decide +kernel
theorem dX8_init_66 : decode cX8_init 66 = .ok (.iconst 4, 1) := by decide +kernel
theorem dX8_init_67 : decode cX8_init 67 = .ok (.newarray .int, 2) := by decide +kernel
theorem dX8_init_69 : decode cX8_init 69 = .ok (.putfield 37, 3) := by decide +kernel
theorem dX8_init_72 : decode cX8_init 72 = .ok (.aload_n 0, 1) := by decide +kernel
theorem dX8_init_73 : decode cX8_init 73 = .ok (.iconst 4, 1) := by decide +kernel
theorem dX8_init_74 : decode cX8_init 74 = .ok (.newarray .long, 2) := by decide +kernel
theorem dX8_init_76 : decode cX8_init 76 = .ok (.putfield 40, 3) := by decide +kernel
theorem dX8_init_79 : decode cX8_init 79 = .ok (.aload_n 0, 1) := by decide +kernel
theorem dX8_init_80 : decode cX8_init 80 = .ok (.iconst (-1), 1) := by decide +kernel
theorem dX8_init_81 : decode cX8_init 81 = .ok (.putfield 43, 3) := by decide +kernel
theorem dX8_init_84 : decode cX8_init 84 = .ok (.aload_n 0, 1) := by decide +kernel
theorem dX8_init_85 : decode cX8_init 85 = .ok (.iconst (-1), 1) := by decide +kernel
theorem dX8_init_86 : decode cX8_init 86 = .ok (.putfield 46, 3) := by decide +kernel
theorem dX8_init_89 : decode cX8_init 89 = .ok (.aload_n 0, 1) := by decide +kernel
theorem dX8_init_90 : decode cX8_init 90 = .ok (.bipush 30, 2) := by decide +kernel
theorem dX8_init_92 : decode cX8_init 92 = .ok (.newarray .int, 2) := by decide +kernel
theorem dX8_init_94 : decode cX8_init 94 = .ok (.putfield 49, 3) := by decide +kernel
theorem dX8_init_97 : decode cX8_init 97 = .ok (.aload_n 0, 1) := by decide +kernel
theorem dX8_init_98 : decode cX8_init 98 = .ok (.sipush 437, 3) := by decide +kernel
theorem dX8_init_101 : decode cX8_init 101 = .ok (.newarray .int, 2) := by decide +kernel
theorem dX8_init_103 : decode cX8_init 103 = .ok (.putfield 52, 3) := by decide +kernel
theorem dX8_init_106 : decode cX8_init 106 = .ok (.aload_n 0, 1) := by decide +kernel
theorem dX8_init_107 : decode cX8_init 107 = .ok (.sipush 4370, 3) := by decide +kernel
theorem dX8_init_110 : decode cX8_init 110 = .ok (.newarray .int, 2) := by decide +kernel
theorem dX8_init_112 : decode cX8_init 112 = .ok (.putfield 55, 3) := by decide +kernel
theorem dX8_init_115 : decode cX8_init 115 = .ok (.aload_n 0, 1) := by decide +kernel
theorem dX8_init_116 : decode cX8_init 116 = .ok (.sipush 874, 3) := by decide +kernel
theorem dX8_init_119 : decode cX8_init 119 = .ok (.newarray .int, 2) := by decide +kernel
theorem dX8_init_121 : decode cX8_init 121 = .ok (.putfield 58, 3) := by decide +kernel
theorem dX8_init_124 : decode cX8_init 124 = .ok (.aload_n 0, 1) := by decide +kernel
theorem dX8_init_125 : decode cX8_init 125 = .ok (.iconst 2, 1) := by decide +kernel
theorem dX8_init_126 : decode cX8_init 126 = .ok (.newarray .boolean, 2) := by decide +kernel
theorem dX8_init_128 : decode cX8_init 128 = .ok (.putfield 61, 3) := by decide +kernel
theorem dX8_init_131 : decode cX8_init 131 = .ok (.aload_n 0, 1) := by decide +kernel
theorem dX8_init_132 : decode cX8_init 132 = .ok (.invokevirtual 65, 3) := by decide +kernel
theorem dX8_init_135 : decode cX8_init 135 = .ok (.aload_n 0, 1) := by decide +kernel
theorem dX8_init_136 : decode cX8_init 136 = .ok (.getfield 28, 3) := by decide +kernel
theorem dX8_init_139 : decode cX8_init 139 = .ok (.iconst 0, 1) := by decide +kernel
theorem dX8_init_140 : decode cX8_init 140 = .ok (.iconst 1, 1) := by decide +kernel
theorem dX8_init_141 : decode cX8_init 141 = .ok (.iastore, 1) := by decide +kernel
theorem dX8_init_142 : decode cX8_init 142 = .ok (.aload_n 0, 1) := by decide +kernel
theorem dX8_init_143 : decode cX8_init 143 = .ok (.getfield 28, 3) := by decide +kernel
theorem dX8_init_146 : decode cX8_init 146 = .ok (.iconst 1, 1) := by decide +kernel
theorem dX8_init_147 : decode cX8_init 147 = .ok (.iconst 1, 1) := by decide +kernel
theorem dX8_init_148 : decode cX8_init 148 = .ok (.iastore, 1) := by decide +kernel
theorem dX8_init_149 : decode cX8_init 149 = .ok (.aload_n 0, 1) := by decide +kernel
theorem dX8_init_150 : decode cX8_init 150 = .ok (.getfield 28, 3) := by decide +kernel
theorem dX8_init_153 : decode cX8_init 153 = .ok (.iconst 2, 1) := by decide +kernel
theorem dX8_init_154 : decode cX8_init 154 = .ok (.iconst 1, 1) := by decide +kernel
theorem dX8_init_155 : decode cX8_init 155 = .ok (.iastore, 1) := by decide +kernel
theorem dX8_init_156 : decode cX8_init 156 = .ok (.aload_n 0, 1) := by decide +kernel
theorem dX8_init_157 : decode cX8_init 157 = .ok (.getfield 28, 3) := by decide +kernel
theorem dX8_init_160 : decode cX8_init 160 = .ok (.iconst 3, 1) := by decide +kernel
theorem dX8_init_161 : decode cX8_init 161 = .ok (.bipush 10, 2) := by decide +kernel
theorem dX8_init_163 : decode cX8_init 163 = .ok (.iastore, 1) := by decide +kernel
theorem dX8_init_164 : decode cX8_init 164 = .ok (.aload_n 0, 1) := by decide +kernel
theorem dX8_init_165 : decode cX8_init 165 = .ok (.invokevirtual 68, 3) := by decide +kernel
theorem dX8_init_168 : decode cX8_init 168 = .ok (.return_, 1) := by decide +kernel
theorem dX8_thrown_0 : decode cX8_thrown 0 = .ok (.aload_n 0, 1) := by decide +kernel
theorem dX8_thrown_1 : decode cX8_thrown 1 = .ok (.getfield 71, 3) := by decide +kernel
theorem dX8_thrown_4 : decode cX8_thrown 4 = .ok (.ireturn, 1) := by decide +kernel
theorem dX8_within_0 : decode cX8_within 0 = .ok (.iload_n 0, 1) := by decide +kernel
theorem dX8_within_1 : decode cX8_within 1 = .ok (.iload_n 1, 1) := by decide +kernel
theorem dX8_within_2 : decode cX8_within 2 = .ok (.if_icmp .lt 12, 3) := by decide +kernel
theorem dX8_within_5 : decode cX8_within 5 = .ok (.iload_n 0, 1) := by decide +kernel
theorem dX8_within_6 : decode cX8_within 6 = .ok (.iload_n 2, 1) := by decide +kernel
theorem dX8_within_7 : decode cX8_within 7 = .ok (.if_icmp .gt 7, 3) := by decide +kernel
theorem dX8_within_10 : decode cX8_within 10 = .ok (.iconst 1, 1) := by decide +kernel
theorem dX8_within_11 : decode cX8_within 11 = .ok (.goto 4, 3) := by decide +kernel
theorem dX8_within_14 : decode cX8_within 14 = .ok (.iconst 0, 1) := by decide +kernel
theorem dX8_within_15 : decode cX8_within 15 = .ok (.ireturn, 1) := by decide +kernel
theorem dX8_throwsIf_0 : decode cX8_throwsIf 0 = .ok (.aload_n 0, 1) := by decide +kernel
theorem dX8_throwsIf_1 : decode cX8_throwsIf 1 = .ok (.getfield 71, 3) := by decide +kernel
theorem dX8_throwsIf_4 : decode cX8_throwsIf 4 = .ok (.ifCond .ne 12, 3) := by decide +kernel
theorem dX8_throwsIf_7 : decode cX8_throwsIf 7 = .ok (.iload_n 1, 1) := by decide +kernel
theorem dX8_throwsIf_8 : decode cX8_throwsIf 8 = .ok (.ifCond .eq 8, 3) := by decide +kernel
theorem dX8_throwsIf_11 : decode cX8_throwsIf 11 = .ok (.aload_n 0, 1) := by decide +kernel
theorem dX8_throwsIf_12 : decode cX8_throwsIf 12 = .ok (.iload_n 2, 1) := by decide +kernel
theorem dX8_throwsIf_13 : decode cX8_throwsIf 13 = .ok (.putfield 71, 3) := by decide +kernel
theorem dX8_throwsIf_16 : decode cX8_throwsIf 16 = .ok (.aload_n 0, 1) := by decide +kernel
theorem dX8_throwsIf_17 : decode cX8_throwsIf 17 = .ok (.getfield 71, 3) := by decide +kernel
theorem dX8_throwsIf_20 : decode cX8_throwsIf 20 = .ok (.ifCond .le 7, 3) := by decide +kernel
theorem dX8_throwsIf_23 : decode cX8_throwsIf 23 = .ok (.iconst 1, 1) := by decide +kernel
theorem dX8_throwsIf_24 : decode cX8_throwsIf 24 = .ok (.goto 4, 3) := by decide +kernel
theorem dX8_throwsIf_27 : decode cX8_throwsIf 27 = .ok (.iconst 0, 1) := by decide +kernel
theorem dX8_throwsIf_28 : decode cX8_throwsIf 28 = .ok (.ireturn, 1) := by decide +kernel
theorem dX8_append_0 : decode cX8_append 0 = .ok (.aload_n 0, 1) := by decide +kernel
theorem dX8_append_1 : decode cX8_append 1 = .ok (.iconst 0, 1) := by decide +kernel
theorem dX8_append_2 : decode cX8_append 2 = .ok (.putfield 71, 3) := by decide +kernel
theorem dX8_append_5 : decode cX8_append 5 = .ok (.aload_n 0, 1) := by decide +kernel
theorem dX8_append_6 : decode cX8_append 6 = .ok (.getfield 74, 3) := by decide +kernel
theorem dX8_append_9 : decode cX8_append 9 = .ok (.bipush 20, 2) := by decide +kernel
theorem dX8_append_11 : decode cX8_append 11 = .ok (.iadd, 1) := by decide +kernel
theorem dX8_append_12 : decode cX8_append 12 = .ok (.sipush 600, 3) := by decide +kernel
theorem dX8_append_15 : decode cX8_append 15 = .ok (.if_icmp .le 5, 3) := by decide +kernel
theorem dX8_append_18 : decode cX8_append 18 = .ok (.iconst (-1), 1) := by decide +kernel
theorem dX8_append_19 : decode cX8_append 19 = .ok (.ireturn, 1) := by decide +kernel
theorem dX8_append_20 : decode cX8_append 20 = .ok (.aload_n 0, 1) := by decide +kernel
theorem dX8_append_21 : decode cX8_append 21 = .ok (.iload_n 1, 1) := by decide +kernel
theorem dX8_append_22 : decode cX8_append 22 = .ok (.invokevirtual 77, 3) := by decide +kernel
theorem dX8_append_25 : decode cX8_append 25 = .ok (.aload_n 0, 1) := by decide +kernel
theorem dX8_append_26 : decode cX8_append 26 = .ok (.iload_n 2, 1) := by decide +kernel
theorem dX8_append_27 : decode cX8_append 27 = .ok (.invokevirtual 77, 3) := by decide +kernel
theorem dX8_append_30 : decode cX8_append 30 = .ok (.aload_n 0, 1) := by decide +kernel
theorem dX8_append_31 : decode cX8_append 31 = .ok (.iload_n 3, 1) := by decide +kernel
theorem dX8_append_32 : decode cX8_append 32 = .ok (.invokevirtual 77, 3) := by decide +kernel
theorem dX8_append_35 : decode cX8_append 35 = .ok (.aload_n 0, 1) := by decide +kernel
theorem dX8_append_36 : decode cX8_append 36 = .ok (.iload 4, 2) := by decide +kernel
theorem dX8_append_38 : decode cX8_append 38 = .ok (.invokevirtual 77, 3) := by decide +kernel
theorem dX8_append_41 : decode cX8_append 41 = .ok (.aload_n 0, 1) := by decide +kernel
theorem dX8_append_42 : decode cX8_append 42 = .ok (.iload 5, 2) := by decide +kernel
theorem dX8_append_44 : decode cX8_append 44 = .ok (.invokevirtual 77, 3) := by decide +kernel
theorem dX8_append_47 : decode cX8_append 47 = .ok (.aload_n 0, 1) := by decide +kernel
theorem dX8_append_48 : decode cX8_append 48 = .ok (.getfield 74, 3) := by decide +kernel
theorem dX8_append_51 : decode cX8_append 51 = .ok (.ireturn, 1) := by decide +kernel
theorem dX8_bytesOf_0 : decode cX8_bytesOf 0 = .ok (.bipush 24, 2) := by decide +kernel
theorem dX8_bytesOf_2 : decode cX8_bytesOf 2 = .ok (.istore_n 2, 1) := by decide +kernel
theorem dX8_bytesOf_3 : decode cX8_bytesOf 3 = .ok (.iload_n 2, 1) := by decide +kernel
theorem dX8_bytesOf_4 : decode cX8_bytesOf 4 = .ok (.ifCond .lt 32, 3) := by decide +kernel
theorem dX8_bytesOf_7 : decode cX8_bytesOf 7 = .ok (.aload_n 0, 1) := by decide +kernel
theorem dX8_bytesOf_8 : decode cX8_bytesOf 8 = .ok (.getfield 20, 3) := by decide +kernel
theorem dX8_bytesOf_11 : decode cX8_bytesOf 11 = .ok (.aload_n 0, 1) := by decide +kernel
theorem dX8_bytesOf_12 : decode cX8_bytesOf 12 = .ok (.getfield 74, 3) := by decide +kernel
theorem dX8_bytesOf_15 : decode cX8_bytesOf 15 = .ok (.iload_n 1, 1) := by decide +kernel
theorem dX8_bytesOf_16 : decode cX8_bytesOf 16 = .ok (.iload_n 2, 1) := by decide +kernel
theorem dX8_bytesOf_17 : decode cX8_bytesOf 17 = .ok (.ishr, 1) := by decide +kernel
theorem dX8_bytesOf_18 : decode cX8_bytesOf 18 = .ok (.i2b, 1) := by decide +kernel
theorem dX8_bytesOf_19 : decode cX8_bytesOf 19 = .ok (.bastore, 1) := by decide +kernel
theorem dX8_bytesOf_20 : decode cX8_bytesOf 20 = .ok (.aload_n 0, 1) := by decide +kernel
theorem dX8_bytesOf_21 : decode cX8_bytesOf 21 = .ok (.dup, 1) := by decide +kernel
theorem dX8_bytesOf_22 : decode cX8_bytesOf 22 = .ok (.getfield 74, 3) := by decide +kernel
theorem dX8_bytesOf_25 : decode cX8_bytesOf 25 = .ok (.iconst 1, 1) := by decide +kernel
theorem dX8_bytesOf_26 : decode cX8_bytesOf 26 = .ok (.iadd, 1) := by decide +kernel
theorem dX8_bytesOf_27 : decode cX8_bytesOf 27 = .ok (.putfield 74, 3) := by decide +kernel
theorem dX8_bytesOf_30 : decode cX8_bytesOf 30 = .ok (.iinc 2 (-8), 3) := by decide +kernel
theorem dX8_bytesOf_33 : decode cX8_bytesOf 33 = .ok (.goto (-30), 3) := by decide +kernel
theorem dX8_bytesOf_36 : decode cX8_bytesOf 36 = .ok (.return_, 1) := by decide +kernel
theorem dX8_byteAt_0 : decode cX8_byteAt 0 = .ok (.iload_n 1, 1) := by decide +kernel
theorem dX8_byteAt_1 : decode cX8_byteAt 1 = .ok (.aload_n 0, 1) := by decide +kernel
theorem dX8_byteAt_2 : decode cX8_byteAt 2 = .ok (.getfield 81, 3) := by decide +kernel
theorem dX8_byteAt_5 : decode cX8_byteAt 5 = .ok (.if_icmp .ge 16, 3) := by decide +kernel
theorem dX8_byteAt_8 : decode cX8_byteAt 8 = .ok (.aload_n 0, 1) := by decide +kernel
theorem dX8_byteAt_9 : decode cX8_byteAt 9 = .ok (.getfield 20, 3) := by decide +kernel
theorem dX8_byteAt_12 : decode cX8_byteAt 12 = .ok (.iload_n 1, 1) := by decide +kernel
theorem dX8_byteAt_13 : decode cX8_byteAt 13 = .ok (.baload, 1) := by decide +kernel
theorem dX8_byteAt_14 : decode cX8_byteAt 14 = .ok (.sipush 255, 3) := by decide +kernel
theorem dX8_byteAt_17 : decode cX8_byteAt 17 = .ok (.iand, 1) := by decide +kernel
theorem dX8_byteAt_18 : decode cX8_byteAt 18 = .ok (.goto 4, 3) := by decide +kernel
theorem dX8_byteAt_21 : decode cX8_byteAt 21 = .ok (.iconst (-1), 1) := by decide +kernel
theorem dX8_byteAt_22 : decode cX8_byteAt 22 = .ok (.ireturn, 1) := by decide +kernel
theorem dX8_takesLetters_0 : decode cX8_takesLetters 0 = .ok (.aload_n 0, 1) := by decide +kernel
theorem dX8_takesLetters_1 : decode cX8_takesLetters 1 = .ok (.lconst 0, 1) := by decide +kernel
theorem dX8_takesLetters_2 : decode cX8_takesLetters 2 = .ok (.putfield 84, 3) := by decide +kernel
theorem dX8_takesLetters_5 : decode cX8_takesLetters 5 = .ok (.aload_n 0, 1) := by decide +kernel
theorem dX8_takesLetters_6 : decode cX8_takesLetters 6 = .ok (.aload_n 0, 1) := by decide +kernel
theorem dX8_takesLetters_7 : decode cX8_takesLetters 7 = .ok (.getfield 88, 3) := by decide +kernel
theorem dX8_takesLetters_10 : decode cX8_takesLetters 10 = .ok (.invokevirtual 91, 3) := by decide +kernel
theorem dX8_takesLetters_13 : decode cX8_takesLetters 13 = .ok (.bipush 97, 2) := by decide +kernel
theorem dX8_takesLetters_15 : decode cX8_takesLetters 15 = .ok (.bipush 122, 2) := by decide +kernel
theorem dX8_takesLetters_17 : decode cX8_takesLetters 17 = .ok (.invokestatic 95, 3) := by decide +kernel
theorem dX8_takesLetters_20 : decode cX8_takesLetters 20 = .ok (.ifCond .eq 58, 3) := by decide +kernel
theorem dX8_takesLetters_23 : decode cX8_takesLetters 23 = .ok (.aload_n 0, 1) := by decide +kernel
theorem dX8_takesLetters_24 : decode cX8_takesLetters 24 = .ok (.aload_n 0, 1) := by decide +kernel
theorem dX8_takesLetters_25 : decode cX8_takesLetters 25 = .ok (.getfield 88, 3) := by decide +kernel
theorem dX8_takesLetters_28 : decode cX8_takesLetters 28 = .ok (.aload_n 0, 1) := by decide +kernel
theorem dX8_takesLetters_29 : decode cX8_takesLetters 29 = .ok (.getfield 99, 3) := by decide +kernel
theorem dX8_takesLetters_32 : decode cX8_takesLetters 32 = .ok (.isub, 1) := by decide +kernel
theorem dX8_takesLetters_33 : decode cX8_takesLetters 33 = .ok (.bipush 8, 2) := by decide +kernel
theorem dX8_takesLetters_35 : decode cX8_takesLetters 35 = .ok (.if_icmp .ge 23, 3) := by decide +kernel
theorem dX8_takesLetters_38 : decode cX8_takesLetters 38 = .ok (.aload_n 0, 1) := by decide +kernel
theorem dX8_takesLetters_39 : decode cX8_takesLetters 39 = .ok (.getfield 84, 3) := by decide +kernel
theorem dX8_takesLetters_42 : decode cX8_takesLetters 42 = .ok (.bipush 8, 2) := by decide +kernel
theorem dX8_takesLetters_44 : decode cX8_takesLetters 44 = .ok (.lshl, 1) := by decide +kernel
theorem dX8_takesLetters_45 : decode cX8_takesLetters 45 = .ok (.aload_n 0, 1) := by decide +kernel
theorem dX8_takesLetters_46 : decode cX8_takesLetters 46 = .ok (.aload_n 0, 1) := by decide +kernel
theorem dX8_takesLetters_47 : decode cX8_takesLetters 47 = .ok (.getfield 88, 3) := by decide +kernel
theorem dX8_takesLetters_50 : decode cX8_takesLetters 50 = .ok (.invokevirtual 91, 3) := by decide +kernel
theorem dX8_takesLetters_53 : decode cX8_takesLetters 53 = .ok (.i2l, 1) := by decide +kernel
theorem dX8_takesLetters_54 : decode cX8_takesLetters 54 = .ok (.lor, 1) := by decide +kernel
theorem dX8_takesLetters_55 : decode cX8_takesLetters 55 = .ok (.goto 7, 3) := by decide +kernel
theorem dX8_takesLetters_58 : decode cX8_takesLetters 58 = .ok (.aload_n 0, 1) := by decide +kernel
theorem dX8_takesLetters_59 : decode cX8_takesLetters 59 = .ok (.getfield 84, 3) := by decide +kernel
theorem dX8_takesLetters_62 : decode cX8_takesLetters 62 = .ok (.putfield 84, 3) := by decide +kernel
theorem dX8_takesLetters_65 : decode cX8_takesLetters 65 = .ok (.aload_n 0, 1) := by decide +kernel
theorem dX8_takesLetters_66 : decode cX8_takesLetters 66 = .ok (.dup, 1) := by decide +kernel
theorem dX8_takesLetters_67 : decode cX8_takesLetters 67 = .ok (.getfield 88, 3) := by decide +kernel
theorem dX8_takesLetters_70 : decode cX8_takesLetters 70 = .ok (.iconst 1, 1) := by decide +kernel
theorem dX8_takesLetters_71 : decode cX8_takesLetters 71 = .ok (.iadd, 1) := by decide +kernel
theorem dX8_takesLetters_72 : decode cX8_takesLetters 72 = .ok (.putfield 88, 3) := by decide +kernel
theorem dX8_takesLetters_75 : decode cX8_takesLetters 75 = .ok (.goto (-70), 3) := by decide +kernel
theorem dX8_takesLetters_78 : decode cX8_takesLetters 78 = .ok (.return_, 1) := by decide +kernel
theorem dX8_advance_0 : decode cX8_advance 0 = .ok (.aload_n 0, 1) := by decide +kernel
theorem dX8_advance_1 : decode cX8_advance 1 = .ok (.aload_n 0, 1) := by decide +kernel
theorem dX8_advance_2 : decode cX8_advance 2 = .ok (.getfield 88, 3) := by decide +kernel
theorem dX8_advance_5 : decode cX8_advance 5 = .ok (.invokevirtual 91, 3) := by decide +kernel
theorem dX8_advance_8 : decode cX8_advance 8 = .ok (.bipush 32, 2) := by decide +kernel
theorem dX8_advance_10 : decode cX8_advance 10 = .ok (.if_icmp .eq 16, 3) := by decide +kernel
theorem dX8_advance_13 : decode cX8_advance 13 = .ok (.aload_n 0, 1) := by decide +kernel
theorem dX8_advance_14 : decode cX8_advance 14 = .ok (.aload_n 0, 1) := by decide +kernel
theorem dX8_advance_15 : decode cX8_advance 15 = .ok (.getfield 88, 3) := by decide +kernel
theorem dX8_advance_18 : decode cX8_advance 18 = .ok (.invokevirtual 91, 3) := by decide +kernel
theorem dX8_advance_21 : decode cX8_advance 21 = .ok (.bipush 10, 2) := by decide +kernel
theorem dX8_advance_23 : decode cX8_advance 23 = .ok (.if_icmp .ne 16, 3) := by decide +kernel
theorem dX8_advance_26 : decode cX8_advance 26 = .ok (.aload_n 0, 1) := by decide +kernel
theorem dX8_advance_27 : decode cX8_advance 27 = .ok (.dup, 1) := by decide +kernel
theorem dX8_advance_28 : decode cX8_advance 28 = .ok (.getfield 88, 3) := by decide +kernel
theorem dX8_advance_31 : decode cX8_advance 31 = .ok (.iconst 1, 1) := by decide +kernel
theorem dX8_advance_32 : decode cX8_advance 32 = .ok (.iadd, 1) := by decide +kernel
theorem dX8_advance_33 : decode cX8_advance 33 = .ok (.putfield 88, 3) := by decide +kernel
theorem dX8_advance_36 : decode cX8_advance 36 = .ok (.goto (-36), 3) := by decide +kernel
theorem dX8_advance_39 : decode cX8_advance 39 = .ok (.aload_n 0, 1) := by decide +kernel
theorem dX8_advance_40 : decode cX8_advance 40 = .ok (.aload_n 0, 1) := by decide +kernel
theorem dX8_advance_41 : decode cX8_advance 41 = .ok (.getfield 88, 3) := by decide +kernel
theorem dX8_advance_44 : decode cX8_advance 44 = .ok (.putfield 99, 3) := by decide +kernel
theorem dX8_advance_47 : decode cX8_advance 47 = .ok (.aload_n 0, 1) := by decide +kernel
theorem dX8_advance_48 : decode cX8_advance 48 = .ok (.iconst 0, 1) := by decide +kernel
theorem dX8_advance_49 : decode cX8_advance 49 = .ok (.putfield 102, 3) := by decide +kernel
theorem dX8_advance_52 : decode cX8_advance 52 = .ok (.aload_n 0, 1) := by decide +kernel
theorem dX8_advance_53 : decode cX8_advance 53 = .ok (.aload_n 0, 1) := by decide +kernel
theorem dX8_advance_54 : decode cX8_advance 54 = .ok (.getfield 88, 3) := by decide +kernel
theorem dX8_advance_57 : decode cX8_advance 57 = .ok (.invokevirtual 91, 3) := by decide +kernel
theorem dX8_advance_60 : decode cX8_advance 60 = .ok (.istore_n 1, 1) := by decide +kernel
theorem dX8_advance_61 : decode cX8_advance 61 = .ok (.iload_n 1, 1) := by decide +kernel
theorem dX8_advance_62 : decode cX8_advance 62 = .ok (.iconst (-1), 1) := by decide +kernel
theorem dX8_advance_63 : decode cX8_advance 63 = .ok (.if_icmp .ne 11, 3) := by decide +kernel
theorem dX8_advance_66 : decode cX8_advance 66 = .ok (.aload_n 0, 1) := by decide +kernel
theorem dX8_advance_67 : decode cX8_advance 67 = .ok (.iconst 0, 1) := by decide +kernel
theorem dX8_advance_68 : decode cX8_advance 68 = .ok (.putfield 105, 3) := by decide +kernel
theorem dX8_advance_71 : decode cX8_advance 71 = .ok (.goto 179, 3) := by decide +kernel
theorem dX8_advance_74 : decode cX8_advance 74 = .ok (.iload_n 1, 1) := by decide +kernel
theorem dX8_advance_75 : decode cX8_advance 75 = .ok (.bipush 97, 2) := by decide +kernel
theorem dX8_advance_77 : decode cX8_advance 77 = .ok (.bipush 122, 2) := by decide +kernel
theorem dX8_advance_79 : decode cX8_advance 79 = .ok (.invokestatic 95, 3) := by decide +kernel
theorem dX8_advance_82 : decode cX8_advance 82 = .ok (.ifCond .eq 33, 3) := by decide +kernel
theorem dX8_advance_85 : decode cX8_advance 85 = .ok (.aload_n 0, 1) := by decide +kernel
theorem dX8_advance_86 : decode cX8_advance 86 = .ok (.invokevirtual 108, 3) := by decide +kernel
theorem dX8_advance_89 : decode cX8_advance 89 = .ok (.aload_n 0, 1) := by decide +kernel
theorem dX8_advance_90 : decode cX8_advance 90 = .ok (.aload_n 0, 1) := by decide +kernel
theorem dX8_advance_91 : decode cX8_advance 91 = .ok (.getfield 88, 3) := by decide +kernel
theorem dX8_advance_94 : decode cX8_advance 94 = .ok (.aload_n 0, 1) := by decide +kernel
theorem dX8_advance_95 : decode cX8_advance 95 = .ok (.getfield 99, 3) := by decide +kernel
theorem dX8_advance_98 : decode cX8_advance 98 = .ok (.isub, 1) := by decide +kernel
theorem dX8_advance_99 : decode cX8_advance 99 = .ok (.bipush 8, 2) := by decide +kernel
theorem dX8_advance_101 : decode cX8_advance 101 = .ok (.if_icmp .le 7, 3) := by decide +kernel
theorem dX8_advance_104 : decode cX8_advance 104 = .ok (.iconst 4, 1) := by decide +kernel
theorem dX8_advance_105 : decode cX8_advance 105 = .ok (.goto 4, 3) := by decide +kernel
theorem dX8_advance_108 : decode cX8_advance 108 = .ok (.iconst 1, 1) := by decide +kernel
theorem dX8_advance_109 : decode cX8_advance 109 = .ok (.putfield 105, 3) := by decide +kernel
theorem dX8_advance_112 : decode cX8_advance 112 = .ok (.goto 138, 3) := by decide +kernel
theorem dX8_advance_115 : decode cX8_advance 115 = .ok (.iload_n 1, 1) := by decide +kernel
theorem dX8_advance_116 : decode cX8_advance 116 = .ok (.bipush 48, 2) := by decide +kernel
theorem dX8_advance_118 : decode cX8_advance 118 = .ok (.bipush 57, 2) := by decide +kernel
theorem dX8_advance_120 : decode cX8_advance 120 = .ok (.invokestatic 95, 3) := by decide +kernel
theorem dX8_advance_123 : decode cX8_advance 123 = .ok (.ifCond .eq 102, 3) := by decide +kernel
theorem dX8_advance_126 : decode cX8_advance 126 = .ok (.aload_n 0, 1) := by decide +kernel
theorem dX8_advance_127 : decode cX8_advance 127 = .ok (.aload_n 0, 1) := by decide +kernel
theorem dX8_advance_128 : decode cX8_advance 128 = .ok (.getfield 88, 3) := by decide +kernel
theorem dX8_advance_131 : decode cX8_advance 131 = .ok (.invokevirtual 91, 3) := by decide +kernel
theorem dX8_advance_134 : decode cX8_advance 134 = .ok (.bipush 48, 2) := by decide +kernel
theorem dX8_advance_136 : decode cX8_advance 136 = .ok (.bipush 57, 2) := by decide +kernel
theorem dX8_advance_138 : decode cX8_advance 138 = .ok (.invokestatic 95, 3) := by decide +kernel
theorem dX8_advance_141 : decode cX8_advance 141 = .ok (.ifCond .eq 59, 3) := by decide +kernel
theorem dX8_advance_144 : decode cX8_advance 144 = .ok (.aload_n 0, 1) := by decide +kernel
theorem dX8_advance_145 : decode cX8_advance 145 = .ok (.aload_n 0, 1) := by decide +kernel
theorem dX8_advance_146 : decode cX8_advance 146 = .ok (.getfield 88, 3) := by decide +kernel
theorem dX8_advance_149 : decode cX8_advance 149 = .ok (.aload_n 0, 1) := by decide +kernel
theorem dX8_advance_150 : decode cX8_advance 150 = .ok (.getfield 99, 3) := by decide +kernel
theorem dX8_advance_153 : decode cX8_advance 153 = .ok (.isub, 1) := by decide +kernel
theorem dX8_advance_154 : decode cX8_advance 154 = .ok (.iconst 4, 1) := by decide +kernel
theorem dX8_advance_155 : decode cX8_advance 155 = .ok (.if_icmp .ge 25, 3) := by decide +kernel
theorem dX8_advance_158 : decode cX8_advance 158 = .ok (.bipush 10, 2) := by decide +kernel
theorem dX8_advance_160 : decode cX8_advance 160 = .ok (.aload_n 0, 1) := by decide +kernel
theorem dX8_advance_161 : decode cX8_advance 161 = .ok (.getfield 102, 3) := by decide +kernel
theorem dX8_advance_164 : decode cX8_advance 164 = .ok (.imul, 1) := by decide +kernel
theorem dX8_advance_165 : decode cX8_advance 165 = .ok (.aload_n 0, 1) := by decide +kernel
theorem dX8_advance_166 : decode cX8_advance 166 = .ok (.aload_n 0, 1) := by decide +kernel
theorem dX8_advance_167 : decode cX8_advance 167 = .ok (.getfield 88, 3) := by decide +kernel
theorem dX8_advance_170 : decode cX8_advance 170 = .ok (.invokevirtual 91, 3) := by decide +kernel
theorem dX8_advance_173 : decode cX8_advance 173 = .ok (.iadd, 1) := by decide +kernel
theorem dX8_advance_174 : decode cX8_advance 174 = .ok (.bipush 48, 2) := by decide +kernel
theorem dX8_advance_176 : decode cX8_advance 176 = .ok (.isub, 1) := by decide +kernel
theorem dX8_advance_177 : decode cX8_advance 177 = .ok (.goto 7, 3) := by decide +kernel
theorem dX8_advance_180 : decode cX8_advance 180 = .ok (.aload_n 0, 1) := by decide +kernel
theorem dX8_advance_181 : decode cX8_advance 181 = .ok (.getfield 102, 3) := by decide +kernel
theorem dX8_advance_184 : decode cX8_advance 184 = .ok (.putfield 102, 3) := by decide +kernel
theorem dX8_advance_187 : decode cX8_advance 187 = .ok (.aload_n 0, 1) := by decide +kernel
theorem dX8_advance_188 : decode cX8_advance 188 = .ok (.dup, 1) := by decide +kernel
theorem dX8_advance_189 : decode cX8_advance 189 = .ok (.getfield 88, 3) := by decide +kernel
theorem dX8_advance_192 : decode cX8_advance 192 = .ok (.iconst 1, 1) := by decide +kernel
theorem dX8_advance_193 : decode cX8_advance 193 = .ok (.iadd, 1) := by decide +kernel
theorem dX8_advance_194 : decode cX8_advance 194 = .ok (.putfield 88, 3) := by decide +kernel
theorem dX8_advance_197 : decode cX8_advance 197 = .ok (.goto (-71), 3) := by decide +kernel
theorem dX8_advance_200 : decode cX8_advance 200 = .ok (.aload_n 0, 1) := by decide +kernel
theorem dX8_advance_201 : decode cX8_advance 201 = .ok (.aload_n 0, 1) := by decide +kernel
theorem dX8_advance_202 : decode cX8_advance 202 = .ok (.getfield 88, 3) := by decide +kernel
theorem dX8_advance_205 : decode cX8_advance 205 = .ok (.aload_n 0, 1) := by decide +kernel
theorem dX8_advance_206 : decode cX8_advance 206 = .ok (.getfield 99, 3) := by decide +kernel
theorem dX8_advance_209 : decode cX8_advance 209 = .ok (.isub, 1) := by decide +kernel
theorem dX8_advance_210 : decode cX8_advance 210 = .ok (.iconst 4, 1) := by decide +kernel
theorem dX8_advance_211 : decode cX8_advance 211 = .ok (.if_icmp .le 7, 3) := by decide +kernel
theorem dX8_advance_214 : decode cX8_advance 214 = .ok (.iconst 4, 1) := by decide +kernel
theorem dX8_advance_215 : decode cX8_advance 215 = .ok (.goto 4, 3) := by decide +kernel
theorem dX8_advance_218 : decode cX8_advance 218 = .ok (.iconst 2, 1) := by decide +kernel
theorem dX8_advance_219 : decode cX8_advance 219 = .ok (.putfield 105, 3) := by decide +kernel
theorem dX8_advance_222 : decode cX8_advance 222 = .ok (.goto 28, 3) := by decide +kernel
theorem dX8_advance_225 : decode cX8_advance 225 = .ok (.aload_n 0, 1) := by decide +kernel
theorem dX8_advance_226 : decode cX8_advance 226 = .ok (.dup, 1) := by decide +kernel
theorem dX8_advance_227 : decode cX8_advance 227 = .ok (.getfield 88, 3) := by decide +kernel
theorem dX8_advance_230 : decode cX8_advance 230 = .ok (.iconst 1, 1) := by decide +kernel
theorem dX8_advance_231 : decode cX8_advance 231 = .ok (.iadd, 1) := by decide +kernel
theorem dX8_advance_232 : decode cX8_advance 232 = .ok (.putfield 88, 3) := by decide +kernel
theorem dX8_advance_235 : decode cX8_advance 235 = .ok (.aload_n 0, 1) := by decide +kernel
theorem dX8_advance_236 : decode cX8_advance 236 = .ok (.iload_n 1, 1) := by decide +kernel
theorem dX8_advance_237 : decode cX8_advance 237 = .ok (.bipush 59, 2) := by decide +kernel
theorem dX8_advance_239 : decode cX8_advance 239 = .ok (.if_icmp .ne 7, 3) := by decide +kernel
theorem dX8_advance_242 : decode cX8_advance 242 = .ok (.iconst 3, 1) := by decide +kernel
theorem dX8_advance_243 : decode cX8_advance 243 = .ok (.goto 4, 3) := by decide +kernel
theorem dX8_advance_246 : decode cX8_advance 246 = .ok (.iconst 4, 1) := by decide +kernel
theorem dX8_advance_247 : decode cX8_advance 247 = .ok (.putfield 105, 3) := by decide +kernel
theorem dX8_advance_250 : decode cX8_advance 250 = .ok (.return_, 1) := by decide +kernel
theorem dX8_isWord_0 : decode cX8_isWord 0 = .ok (.aload_n 0, 1) := by decide +kernel
theorem dX8_isWord_1 : decode cX8_isWord 1 = .ok (.getfield 105, 3) := by decide +kernel
theorem dX8_isWord_4 : decode cX8_isWord 4 = .ok (.iconst 1, 1) := by decide +kernel
theorem dX8_isWord_5 : decode cX8_isWord 5 = .ok (.if_icmp .ne 23, 3) := by decide +kernel
theorem dX8_isWord_8 : decode cX8_isWord 8 = .ok (.aload_n 0, 1) := by decide +kernel
theorem dX8_isWord_9 : decode cX8_isWord 9 = .ok (.getfield 88, 3) := by decide +kernel
theorem dX8_isWord_12 : decode cX8_isWord 12 = .ok (.aload_n 0, 1) := by decide +kernel
theorem dX8_isWord_13 : decode cX8_isWord 13 = .ok (.getfield 99, 3) := by decide +kernel
theorem dX8_isWord_16 : decode cX8_isWord 16 = .ok (.isub, 1) := by decide +kernel
theorem dX8_isWord_17 : decode cX8_isWord 17 = .ok (.aload_n 1, 1) := by decide +kernel
theorem dX8_isWord_18 : decode cX8_isWord 18 = .ok (.invokevirtual 111, 3) := by decide +kernel
theorem dX8_isWord_21 : decode cX8_isWord 21 = .ok (.if_icmp .ne 7, 3) := by decide +kernel
theorem dX8_isWord_24 : decode cX8_isWord 24 = .ok (.iconst 1, 1) := by decide +kernel
theorem dX8_isWord_25 : decode cX8_isWord 25 = .ok (.goto 4, 3) := by decide +kernel
theorem dX8_isWord_28 : decode cX8_isWord 28 = .ok (.iconst 0, 1) := by decide +kernel
theorem dX8_isWord_29 : decode cX8_isWord 29 = .ok (.istore_n 2, 1) := by decide +kernel
theorem dX8_isWord_30 : decode cX8_isWord 30 = .ok (.iconst 0, 1) := by decide +kernel
theorem dX8_isWord_31 : decode cX8_isWord 31 = .ok (.istore_n 3, 1) := by decide +kernel
theorem dX8_isWord_32 : decode cX8_isWord 32 = .ok (.iload_n 3, 1) := by decide +kernel
theorem dX8_isWord_33 : decode cX8_isWord 33 = .ok (.aload_n 1, 1) := by decide +kernel
theorem dX8_isWord_34 : decode cX8_isWord 34 = .ok (.invokevirtual 111, 3) := by decide +kernel
theorem dX8_isWord_37 : decode cX8_isWord 37 = .ok (.if_icmp .ge 38, 3) := by decide +kernel
theorem dX8_isWord_40 : decode cX8_isWord 40 = .ok (.iload_n 2, 1) := by decide +kernel
theorem dX8_isWord_41 : decode cX8_isWord 41 = .ok (.ifCond .eq 34, 3) := by decide +kernel
theorem dX8_isWord_44 : decode cX8_isWord 44 = .ok (.aload_n 0, 1) := by decide +kernel
theorem dX8_isWord_45 : decode cX8_isWord 45 = .ok (.getfield 20, 3) := by decide +kernel
theorem dX8_isWord_48 : decode cX8_isWord 48 = .ok (.aload_n 0, 1) := by decide +kernel
theorem dX8_isWord_49 : decode cX8_isWord 49 = .ok (.getfield 99, 3) := by decide +kernel
theorem dX8_isWord_52 : decode cX8_isWord 52 = .ok (.iload_n 3, 1) := by decide +kernel
theorem dX8_isWord_53 : decode cX8_isWord 53 = .ok (.iadd, 1) := by decide +kernel
theorem dX8_isWord_54 : decode cX8_isWord 54 = .ok (.baload, 1) := by decide +kernel
theorem dX8_isWord_55 : decode cX8_isWord 55 = .ok (.aload_n 1, 1) := by decide +kernel
theorem dX8_isWord_56 : decode cX8_isWord 56 = .ok (.iload_n 3, 1) := by decide +kernel
theorem dX8_isWord_57 : decode cX8_isWord 57 = .ok (.invokevirtual 116, 3) := by decide +kernel
theorem dX8_isWord_60 : decode cX8_isWord 60 = .ok (.if_icmp .ne 7, 3) := by decide +kernel
theorem dX8_isWord_63 : decode cX8_isWord 63 = .ok (.iconst 1, 1) := by decide +kernel
theorem dX8_isWord_64 : decode cX8_isWord 64 = .ok (.goto 4, 3) := by decide +kernel
theorem dX8_isWord_67 : decode cX8_isWord 67 = .ok (.iconst 0, 1) := by decide +kernel
theorem dX8_isWord_68 : decode cX8_isWord 68 = .ok (.istore_n 2, 1) := by decide +kernel
theorem dX8_isWord_69 : decode cX8_isWord 69 = .ok (.iinc 3 1, 3) := by decide +kernel
theorem dX8_isWord_72 : decode cX8_isWord 72 = .ok (.goto (-40), 3) := by decide +kernel
theorem dX8_isWord_75 : decode cX8_isWord 75 = .ok (.iload_n 2, 1) := by decide +kernel
theorem dX8_isWord_76 : decode cX8_isWord 76 = .ok (.ireturn, 1) := by decide +kernel
theorem dX8_fails_0 : decode cX8_fails 0 = .ok (.aload_n 0, 1) := by decide +kernel
theorem dX8_fails_1 : decode cX8_fails 1 = .ok (.getfield 120, 3) := by decide +kernel
theorem dX8_fails_4 : decode cX8_fails 4 = .ok (.ifCond .ne 16, 3) := by decide +kernel
theorem dX8_fails_7 : decode cX8_fails 7 = .ok (.aload_n 0, 1) := by decide +kernel
theorem dX8_fails_8 : decode cX8_fails 8 = .ok (.iload_n 1, 1) := by decide +kernel
theorem dX8_fails_9 : decode cX8_fails 9 = .ok (.putfield 120, 3) := by decide +kernel
theorem dX8_fails_12 : decode cX8_fails 12 = .ok (.aload_n 0, 1) := by decide +kernel
theorem dX8_fails_13 : decode cX8_fails 13 = .ok (.aload_n 0, 1) := by decide +kernel
theorem dX8_fails_14 : decode cX8_fails 14 = .ok (.getfield 99, 3) := by decide +kernel
theorem dX8_fails_17 : decode cX8_fails 17 = .ok (.putfield 24, 3) := by decide +kernel
theorem dX8_fails_20 : decode cX8_fails 20 = .ok (.iconst 0, 1) := by decide +kernel
theorem dX8_fails_21 : decode cX8_fails 21 = .ok (.ireturn, 1) := by decide +kernel
theorem dX8_starts_0 : decode cX8_starts 0 = .ok (.iload_n 2, 1) := by decide +kernel
theorem dX8_starts_1 : decode cX8_starts 1 = .ok (.ifCond .ne 9, 3) := by decide +kernel
theorem dX8_starts_4 : decode cX8_starts 4 = .ok (.aload_n 0, 1) := by decide +kernel
theorem dX8_starts_5 : decode cX8_starts 5 = .ok (.iload_n 1, 1) := by decide +kernel
theorem dX8_starts_6 : decode cX8_starts 6 = .ok (.invokevirtual 123, 3) := by decide +kernel
theorem dX8_starts_9 : decode cX8_starts 9 = .ok (.ireturn, 1) := by decide +kernel
theorem dX8_starts_10 : decode cX8_starts 10 = .ok (.aload_n 0, 1) := by decide +kernel
theorem dX8_starts_11 : decode cX8_starts 11 = .ok (.invokevirtual 127, 3) := by decide +kernel
theorem dX8_starts_14 : decode cX8_starts 14 = .ok (.iconst 1, 1) := by decide +kernel
theorem dX8_starts_15 : decode cX8_starts 15 = .ok (.ireturn, 1) := by decide +kernel
theorem dX8_isNumber_0 : decode cX8_isNumber 0 = .ok (.aload_n 0, 1) := by decide +kernel
theorem dX8_isNumber_1 : decode cX8_isNumber 1 = .ok (.getfield 105, 3) := by decide +kernel
theorem dX8_isNumber_4 : decode cX8_isNumber 4 = .ok (.iconst 2, 1) := by decide +kernel
theorem dX8_isNumber_5 : decode cX8_isNumber 5 = .ok (.if_icmp .eq 11, 3) := by decide +kernel
theorem dX8_isNumber_8 : decode cX8_isNumber 8 = .ok (.aload_n 0, 1) := by decide +kernel
theorem dX8_isNumber_9 : decode cX8_isNumber 9 = .ok (.iconst 1, 1) := by decide +kernel
theorem dX8_isNumber_10 : decode cX8_isNumber 10 = .ok (.invokevirtual 123, 3) := by decide +kernel
theorem dX8_isNumber_13 : decode cX8_isNumber 13 = .ok (.goto 28, 3) := by decide +kernel
theorem dX8_isNumber_16 : decode cX8_isNumber 16 = .ok (.aload_n 0, 1) := by decide +kernel
theorem dX8_isNumber_17 : decode cX8_isNumber 17 = .ok (.getfield 102, 3) := by decide +kernel
theorem dX8_isNumber_20 : decode cX8_isNumber 20 = .ok (.iload_n 1, 1) := by decide +kernel
theorem dX8_isNumber_21 : decode cX8_isNumber 21 = .ok (.iload_n 2, 1) := by decide +kernel
theorem dX8_isNumber_22 : decode cX8_isNumber 22 = .ok (.invokestatic 95, 3) := by decide +kernel
theorem dX8_isNumber_25 : decode cX8_isNumber 25 = .ok (.ifCond .ne 11, 3) := by decide +kernel
theorem dX8_isNumber_28 : decode cX8_isNumber 28 = .ok (.aload_n 0, 1) := by decide +kernel
theorem dX8_isNumber_29 : decode cX8_isNumber 29 = .ok (.iconst 3, 1) := by decide +kernel
theorem dX8_isNumber_30 : decode cX8_isNumber 30 = .ok (.invokevirtual 123, 3) := by decide +kernel
theorem dX8_isNumber_33 : decode cX8_isNumber 33 = .ok (.ifCond .eq 7, 3) := by decide +kernel
theorem dX8_isNumber_36 : decode cX8_isNumber 36 = .ok (.iconst 1, 1) := by decide +kernel
theorem dX8_isNumber_37 : decode cX8_isNumber 37 = .ok (.goto 4, 3) := by decide +kernel
theorem dX8_isNumber_40 : decode cX8_isNumber 40 = .ok (.iconst 0, 1) := by decide +kernel
theorem dX8_isNumber_41 : decode cX8_isNumber 41 = .ok (.ireturn, 1) := by decide +kernel
theorem dX8_takes_0 : decode cX8_takes 0 = .ok (.aload_n 0, 1) := by decide +kernel
theorem dX8_takes_1 : decode cX8_takes 1 = .ok (.iload_n 1, 1) := by decide +kernel
theorem dX8_takes_2 : decode cX8_takes 2 = .ok (.iload_n 2, 1) := by decide +kernel
theorem dX8_takes_3 : decode cX8_takes 3 = .ok (.invokevirtual 130, 3) := by decide +kernel
theorem dX8_takes_6 : decode cX8_takes 6 = .ok (.ifCond .ne 5, 3) := by decide +kernel
theorem dX8_takes_9 : decode cX8_takes 9 = .ok (.iconst 0, 1) := by decide +kernel
theorem dX8_takes_10 : decode cX8_takes 10 = .ok (.ireturn, 1) := by decide +kernel
theorem dX8_takes_11 : decode cX8_takes 11 = .ok (.aload_n 0, 1) := by decide +kernel
theorem dX8_takes_12 : decode cX8_takes 12 = .ok (.aload_n 0, 1) := by decide +kernel
theorem dX8_takes_13 : decode cX8_takes 13 = .ok (.getfield 102, 3) := by decide +kernel
theorem dX8_takes_16 : decode cX8_takes 16 = .ok (.putfield 134, 3) := by decide +kernel
theorem dX8_takes_19 : decode cX8_takes 19 = .ok (.aload_n 0, 1) := by decide +kernel
theorem dX8_takes_20 : decode cX8_takes 20 = .ok (.invokevirtual 127, 3) := by decide +kernel
theorem dX8_takes_23 : decode cX8_takes 23 = .ok (.iconst 1, 1) := by decide +kernel
theorem dX8_takes_24 : decode cX8_takes 24 = .ok (.ireturn, 1) := by decide +kernel
theorem dX8_lays_0 : decode cX8_lays 0 = .ok (.aload_n 0, 1) := by decide +kernel
theorem dX8_lays_1 : decode cX8_lays 1 = .ok (.iload_n 2, 1) := by decide +kernel
theorem dX8_lays_2 : decode cX8_lays 2 = .ok (.iload_n 3, 1) := by decide +kernel
theorem dX8_lays_3 : decode cX8_lays 3 = .ok (.invokevirtual 137, 3) := by decide +kernel
theorem dX8_lays_6 : decode cX8_lays 6 = .ok (.ifCond .ne 5, 3) := by decide +kernel
theorem dX8_lays_9 : decode cX8_lays 9 = .ok (.iconst 0, 1) := by decide +kernel
theorem dX8_lays_10 : decode cX8_lays 10 = .ok (.ireturn, 1) := by decide +kernel
theorem dX8_lays_11 : decode cX8_lays 11 = .ok (.aload_n 0, 1) := by decide +kernel
theorem dX8_lays_12 : decode cX8_lays 12 = .ok (.getfield 28, 3) := by decide +kernel
theorem dX8_lays_15 : decode cX8_lays 15 = .ok (.iload_n 1, 1) := by decide +kernel
theorem dX8_lays_16 : decode cX8_lays 16 = .ok (.aload_n 0, 1) := by decide +kernel
theorem dX8_lays_17 : decode cX8_lays 17 = .ok (.getfield 134, 3) := by decide +kernel
theorem dX8_lays_20 : decode cX8_lays 20 = .ok (.iastore, 1) := by decide +kernel
theorem dX8_lays_21 : decode cX8_lays 21 = .ok (.iconst 1, 1) := by decide +kernel
theorem dX8_lays_22 : decode cX8_lays 22 = .ok (.ireturn, 1) := by decide +kernel
theorem dX8_closes_0 : decode cX8_closes 0 = .ok (.aload_n 0, 1) := by decide +kernel
theorem dX8_closes_1 : decode cX8_closes 1 = .ok (.iconst 1, 1) := by decide +kernel
theorem dX8_closes_2 : decode cX8_closes 2 = .ok (.aload_n 0, 1) := by decide +kernel
theorem dX8_closes_3 : decode cX8_closes 3 = .ok (.getfield 105, 3) := by decide +kernel
theorem dX8_closes_6 : decode cX8_closes 6 = .ok (.iconst 3, 1) := by decide +kernel
theorem dX8_closes_7 : decode cX8_closes 7 = .ok (.if_icmp .ne 7, 3) := by decide +kernel
theorem dX8_closes_10 : decode cX8_closes 10 = .ok (.iconst 1, 1) := by decide +kernel
theorem dX8_closes_11 : decode cX8_closes 11 = .ok (.goto 4, 3) := by decide +kernel
theorem dX8_closes_14 : decode cX8_closes 14 = .ok (.iconst 0, 1) := by decide +kernel
theorem dX8_closes_15 : decode cX8_closes 15 = .ok (.invokevirtual 140, 3) := by decide +kernel
theorem dX8_closes_18 : decode cX8_closes 18 = .ok (.ireturn, 1) := by decide +kernel
theorem dX8_named_0 : decode cX8_named 0 = .ok (.iconst 0, 1) := by decide +kernel
theorem dX8_named_1 : decode cX8_named 1 = .ok (.istore 4, 2) := by decide +kernel
theorem dX8_named_3 : decode cX8_named 3 = .ok (.iload 4, 2) := by decide +kernel
theorem dX8_named_5 : decode cX8_named 5 = .ok (.iload_n 1, 1) := by decide +kernel
theorem dX8_named_6 : decode cX8_named 6 = .ok (.if_icmp .ge 21, 3) := by decide +kernel
theorem dX8_named_9 : decode cX8_named 9 = .ok (.aload_n 0, 1) := by decide +kernel
theorem dX8_named_10 : decode cX8_named 10 = .ok (.iload 4, 2) := by decide +kernel
theorem dX8_named_12 : decode cX8_named 12 = .ok (.laload, 1) := by decide +kernel
theorem dX8_named_13 : decode cX8_named 13 = .ok (.lload_n 2, 1) := by decide +kernel
theorem dX8_named_14 : decode cX8_named 14 = .ok (.lcmp, 1) := by decide +kernel
theorem dX8_named_15 : decode cX8_named 15 = .ok (.ifCond .ne 6, 3) := by decide +kernel
theorem dX8_named_18 : decode cX8_named 18 = .ok (.iload 4, 2) := by decide +kernel
theorem dX8_named_20 : decode cX8_named 20 = .ok (.ireturn, 1) := by decide +kernel
theorem dX8_named_21 : decode cX8_named 21 = .ok (.iinc 4 1, 3) := by decide +kernel
theorem dX8_named_24 : decode cX8_named 24 = .ok (.goto (-21), 3) := by decide +kernel
theorem dX8_named_27 : decode cX8_named 27 = .ok (.iconst (-1), 1) := by decide +kernel
theorem dX8_named_28 : decode cX8_named 28 = .ok (.ireturn, 1) := by decide +kernel
theorem dX8_linkLine_0 : decode cX8_linkLine 0 = .ok (.aload_n 0, 1) := by decide +kernel
theorem dX8_linkLine_1 : decode cX8_linkLine 1 = .ok (.getfield 28, 3) := by decide +kernel
theorem dX8_linkLine_4 : decode cX8_linkLine 4 = .ok (.iconst 5, 1) := by decide +kernel
theorem dX8_linkLine_5 : decode cX8_linkLine 5 = .ok (.iaload, 1) := by decide +kernel
theorem dX8_linkLine_6 : decode cX8_linkLine 6 = .ok (.istore_n 1, 1) := by decide +kernel
theorem dX8_linkLine_7 : decode cX8_linkLine 7 = .ok (.aload_n 0, 1) := by decide +kernel
theorem dX8_linkLine_8 : decode cX8_linkLine 8 = .ok (.iconst 5, 1) := by decide +kernel
theorem dX8_linkLine_9 : decode cX8_linkLine 9 = .ok (.iload_n 1, 1) := by decide +kernel
theorem dX8_linkLine_10 : decode cX8_linkLine 10 = .ok (.bipush 8, 2) := by decide +kernel
theorem dX8_linkLine_12 : decode cX8_linkLine 12 = .ok (.if_icmp .ge 7, 3) := by decide +kernel
theorem dX8_linkLine_15 : decode cX8_linkLine 15 = .ok (.iconst 1, 1) := by decide +kernel
theorem dX8_linkLine_16 : decode cX8_linkLine 16 = .ok (.goto 4, 3) := by decide +kernel
theorem dX8_linkLine_19 : decode cX8_linkLine 19 = .ok (.iconst 0, 1) := by decide +kernel
theorem dX8_linkLine_20 : decode cX8_linkLine 20 = .ok (.invokevirtual 140, 3) := by decide +kernel
theorem dX8_linkLine_23 : decode cX8_linkLine 23 = .ok (.ifCond .eq 29, 3) := by decide +kernel
theorem dX8_linkLine_26 : decode cX8_linkLine 26 = .ok (.aload_n 0, 1) := by decide +kernel
theorem dX8_linkLine_27 : decode cX8_linkLine 27 = .ok (.bipush 7, 2) := by decide +kernel
theorem dX8_linkLine_29 : decode cX8_linkLine 29 = .ok (.iload_n 1, 1) := by decide +kernel
theorem dX8_linkLine_30 : decode cX8_linkLine 30 = .ok (.iadd, 1) := by decide +kernel
theorem dX8_linkLine_31 : decode cX8_linkLine 31 = .ok (.iconst 1, 1) := by decide +kernel
theorem dX8_linkLine_32 : decode cX8_linkLine 32 = .ok (.sipush 200, 3) := by decide +kernel
theorem dX8_linkLine_35 : decode cX8_linkLine 35 = .ok (.invokevirtual 144, 3) := by decide +kernel
theorem dX8_linkLine_38 : decode cX8_linkLine 38 = .ok (.ifCond .eq 14, 3) := by decide +kernel
theorem dX8_linkLine_41 : decode cX8_linkLine 41 = .ok (.aload_n 0, 1) := by decide +kernel
theorem dX8_linkLine_42 : decode cX8_linkLine 42 = .ok (.iconst 0, 1) := by decide +kernel
theorem dX8_linkLine_43 : decode cX8_linkLine 43 = .ok (.sipush 9999, 3) := by decide +kernel
theorem dX8_linkLine_46 : decode cX8_linkLine 46 = .ok (.invokevirtual 137, 3) := by decide +kernel
theorem dX8_linkLine_49 : decode cX8_linkLine 49 = .ok (.ifCond .ne 5, 3) := by decide +kernel
theorem dX8_linkLine_52 : decode cX8_linkLine 52 = .ok (.iconst 0, 1) := by decide +kernel
theorem dX8_linkLine_53 : decode cX8_linkLine 53 = .ok (.ireturn, 1) := by decide +kernel
theorem dX8_linkLine_54 : decode cX8_linkLine 54 = .ok (.aload_n 0, 1) := by decide +kernel
theorem dX8_linkLine_55 : decode cX8_linkLine 55 = .ok (.getfield 31, 3) := by decide +kernel
theorem dX8_linkLine_58 : decode cX8_linkLine 58 = .ok (.iload_n 1, 1) := by decide +kernel
theorem dX8_linkLine_59 : decode cX8_linkLine 59 = .ok (.aload_n 0, 1) := by decide +kernel
theorem dX8_linkLine_60 : decode cX8_linkLine 60 = .ok (.getfield 134, 3) := by decide +kernel
theorem dX8_linkLine_63 : decode cX8_linkLine 63 = .ok (.iastore, 1) := by decide +kernel
theorem dX8_linkLine_64 : decode cX8_linkLine 64 = .ok (.aload_n 0, 1) := by decide +kernel
theorem dX8_linkLine_65 : decode cX8_linkLine 65 = .ok (.getfield 28, 3) := by decide +kernel
theorem dX8_linkLine_68 : decode cX8_linkLine 68 = .ok (.iconst 5, 1) := by decide +kernel
theorem dX8_linkLine_69 : decode cX8_linkLine 69 = .ok (.dup2, 1) := by decide +kernel
theorem dX8_linkLine_70 : decode cX8_linkLine 70 = .ok (.iaload, 1) := by decide +kernel
theorem dX8_linkLine_71 : decode cX8_linkLine 71 = .ok (.iconst 1, 1) := by decide +kernel
theorem dX8_linkLine_72 : decode cX8_linkLine 72 = .ok (.iadd, 1) := by decide +kernel
theorem dX8_linkLine_73 : decode cX8_linkLine 73 = .ok (.iastore, 1) := by decide +kernel
theorem dX8_linkLine_74 : decode cX8_linkLine 74 = .ok (.iconst 1, 1) := by decide +kernel
theorem dX8_linkLine_75 : decode cX8_linkLine 75 = .ok (.ireturn, 1) := by decide +kernel
theorem dX8_varyLine_0 : decode cX8_varyLine 0 = .ok (.aload_n 0, 1) := by decide +kernel
theorem dX8_varyLine_1 : decode cX8_varyLine 1 = .ok (.iconst 2, 1) := by decide +kernel
theorem dX8_varyLine_2 : decode cX8_varyLine 2 = .ok (.aload_n 0, 1) := by decide +kernel
theorem dX8_varyLine_3 : decode cX8_varyLine 3 = .ok (.getfield 147, 3) := by decide +kernel
theorem dX8_varyLine_6 : decode cX8_varyLine 6 = .ok (.ifCond .ne 7, 3) := by decide +kernel
theorem dX8_varyLine_9 : decode cX8_varyLine 9 = .ok (.iconst 1, 1) := by decide +kernel
