theorem dX0_init_0 : decode cX0_init 0 = .ok (.aload_n 0, 1) := by decide +kernel
theorem dX0_init_1 : decode cX0_init 1 = .ok (.invokespecial 1, 3) := by decide +kernel
theorem dX0_init_4 : decode cX0_init 4 = .ok (.aload_n 0, 1) := by decide +kernel
theorem dX0_init_5 : decode cX0_init 5 = .ok (.iload_n 2, 1) := by decide +kernel
theorem dX0_init_6 : decode cX0_init 6 = .ok (.putfield 7, 3) := by decide +kernel
theorem dX0_init_9 : decode cX0_init 9 = .ok (.aload_n 0, 1) := by decide +kernel
theorem dX0_init_10 : decode cX0_init 10 = .ok (.iload_n 1, 1) := by decide +kernel
theorem dX0_init_11 : decode cX0_init 11 = .ok (.invokestatic 13, 3) := by decide +kernel
theorem dX0_init_14 : decode cX0_init 14 = .ok (.putfield 19, 3) := by decide +kernel
theorem dX0_init_17 : decode cX0_init 17 = .ok (.aload_n 0, 1) := by decide +kernel
theorem dX0_init_18 : decode cX0_init 18 = .ok (.iload_n 1, 1) := by decide +kernel
theorem dX0_init_19 : decode cX0_init 19 = .ok (.newarray .int, 2) := by decide +kernel
theorem dX0_init_21 : decode cX0_init 21 = .ok (.putfield 23, 3) := by decide +kernel
theorem dX0_init_24 : decode cX0_init 24 = .ok (.return_, 1) := by decide +kernel
theorem dX0_invert_0 : decode cX0_invert 0 = .ok (.iconst 0, 1) := by decide +kernel
theorem dX0_invert_1 : decode cX0_invert 1 = .ok (.istore_n 2, 1) := by decide +kernel
theorem dX0_invert_2 : decode cX0_invert 2 = .ok (.iload_n 2, 1) := by decide +kernel
theorem dX0_invert_3 : decode cX0_invert 3 = .ok (.aload_n 0, 1) := by decide +kernel
theorem dX0_invert_4 : decode cX0_invert 4 = .ok (.getfield 19, 3) := by decide +kernel
theorem dX0_invert_7 : decode cX0_invert 7 = .ok (.arraylength, 1) := by decide +kernel
theorem dX0_invert_8 : decode cX0_invert 8 = .ok (.if_icmp .ge 45, 3) := by decide +kernel
theorem dX0_invert_11 : decode cX0_invert 11 = .ok (.aload_n 1, 1) := by decide +kernel
theorem dX0_invert_12 : decode cX0_invert 12 = .ok (.getfield 19, 3) := by decide +kernel
theorem dX0_invert_15 : decode cX0_invert 15 = .ok (.iload_n 2, 1) := by decide +kernel
theorem dX0_invert_16 : decode cX0_invert 16 = .ok (.iaload, 1) := by decide +kernel
theorem dX0_invert_17 : decode cX0_invert 17 = .ok (.istore_n 3, 1) := by decide +kernel
theorem dX0_invert_18 : decode cX0_invert 18 = .ok (.aload_n 0, 1) := by decide +kernel
theorem dX0_invert_19 : decode cX0_invert 19 = .ok (.getfield 19, 3) := by decide +kernel
theorem dX0_invert_22 : decode cX0_invert 22 = .ok (.iload_n 3, 1) := by decide +kernel
theorem dX0_invert_23 : decode cX0_invert 23 = .ok (.iload_n 2, 1) := by decide +kernel
theorem dX0_invert_24 : decode cX0_invert 24 = .ok (.iastore, 1) := by decide +kernel
theorem dX0_invert_25 : decode cX0_invert 25 = .ok (.aload_n 0, 1) := by decide +kernel
theorem dX0_invert_26 : decode cX0_invert 26 = .ok (.getfield 23, 3) := by decide +kernel
theorem dX0_invert_29 : decode cX0_invert 29 = .ok (.iload_n 3, 1) := by decide +kernel
theorem dX0_invert_30 : decode cX0_invert 30 = .ok (.aload_n 0, 1) := by decide +kernel
theorem dX0_invert_31 : decode cX0_invert 31 = .ok (.getfield 7, 3) := by decide +kernel
theorem dX0_invert_34 : decode cX0_invert 34 = .ok (.aload_n 1, 1) := by decide +kernel
theorem dX0_invert_35 : decode cX0_invert 35 = .ok (.getfield 23, 3) := by decide +kernel
theorem dX0_invert_38 : decode cX0_invert 38 = .ok (.iload_n 2, 1) := by decide +kernel
theorem dX0_invert_39 : decode cX0_invert 39 = .ok (.iaload, 1) := by decide +kernel
theorem dX0_invert_40 : decode cX0_invert 40 = .ok (.isub, 1) := by decide +kernel
theorem dX0_invert_41 : decode cX0_invert 41 = .ok (.aload_n 0, 1) := by decide +kernel
theorem dX0_invert_42 : decode cX0_invert 42 = .ok (.getfield 7, 3) := by decide +kernel
theorem dX0_invert_45 : decode cX0_invert 45 = .ok (.irem, 1) := by decide +kernel
theorem dX0_invert_46 : decode cX0_invert 46 = .ok (.iastore, 1) := by decide +kernel
theorem dX0_invert_47 : decode cX0_invert 47 = .ok (.iinc 2 1, 3) := by decide +kernel
theorem dX0_invert_50 : decode cX0_invert 50 = .ok (.goto (-48), 3) := by decide +kernel
theorem dX0_invert_53 : decode cX0_invert 53 = .ok (.return_, 1) := by decide +kernel
theorem dX0_isImage_0 : decode cX0_isImage 0 = .ok (.iconst 0, 1) := by decide +kernel
theorem dX0_isImage_1 : decode cX0_isImage 1 = .ok (.istore_n 3, 1) := by decide +kernel
theorem dX0_isImage_2 : decode cX0_isImage 2 = .ok (.iload_n 3, 1) := by decide +kernel
theorem dX0_isImage_3 : decode cX0_isImage 3 = .ok (.aload_n 0, 1) := by decide +kernel
theorem dX0_isImage_4 : decode cX0_isImage 4 = .ok (.getfield 19, 3) := by decide +kernel
theorem dX0_isImage_7 : decode cX0_isImage 7 = .ok (.arraylength, 1) := by decide +kernel
theorem dX0_isImage_8 : decode cX0_isImage 8 = .ok (.if_icmp .ge 50, 3) := by decide +kernel
theorem dX0_isImage_11 : decode cX0_isImage 11 = .ok (.aload_n 2, 1) := by decide +kernel
theorem dX0_isImage_12 : decode cX0_isImage 12 = .ok (.iload_n 3, 1) := by decide +kernel
theorem dX0_isImage_13 : decode cX0_isImage 13 = .ok (.iaload, 1) := by decide +kernel
theorem dX0_isImage_14 : decode cX0_isImage 14 = .ok (.istore 4, 2) := by decide +kernel
theorem dX0_isImage_16 : decode cX0_isImage 16 = .ok (.aload_n 0, 1) := by decide +kernel
theorem dX0_isImage_17 : decode cX0_isImage 17 = .ok (.getfield 19, 3) := by decide +kernel
theorem dX0_isImage_20 : decode cX0_isImage 20 = .ok (.iload 4, 2) := by decide +kernel
theorem dX0_isImage_22 : decode cX0_isImage 22 = .ok (.iaload, 1) := by decide +kernel
theorem dX0_isImage_23 : decode cX0_isImage 23 = .ok (.aload_n 2, 1) := by decide +kernel
theorem dX0_isImage_24 : decode cX0_isImage 24 = .ok (.aload_n 1, 1) := by decide +kernel
theorem dX0_isImage_25 : decode cX0_isImage 25 = .ok (.getfield 19, 3) := by decide +kernel
theorem dX0_isImage_28 : decode cX0_isImage 28 = .ok (.iload_n 3, 1) := by decide +kernel
theorem dX0_isImage_29 : decode cX0_isImage 29 = .ok (.iaload, 1) := by decide +kernel
theorem dX0_isImage_30 : decode cX0_isImage 30 = .ok (.iaload, 1) := by decide +kernel
theorem dX0_isImage_31 : decode cX0_isImage 31 = .ok (.if_icmp .ne 19, 3) := by decide +kernel
theorem dX0_isImage_34 : decode cX0_isImage 34 = .ok (.aload_n 0, 1) := by decide +kernel
theorem dX0_isImage_35 : decode cX0_isImage 35 = .ok (.getfield 23, 3) := by decide +kernel
theorem dX0_isImage_38 : decode cX0_isImage 38 = .ok (.iload 4, 2) := by decide +kernel
theorem dX0_isImage_40 : decode cX0_isImage 40 = .ok (.iaload, 1) := by decide +kernel
theorem dX0_isImage_41 : decode cX0_isImage 41 = .ok (.aload_n 1, 1) := by decide +kernel
theorem dX0_isImage_42 : decode cX0_isImage 42 = .ok (.getfield 23, 3) := by decide +kernel
theorem dX0_isImage_45 : decode cX0_isImage 45 = .ok (.iload_n 3, 1) := by decide +kernel
theorem dX0_isImage_46 : decode cX0_isImage 46 = .ok (.iaload, 1) := by decide +kernel
theorem dX0_isImage_47 : decode cX0_isImage 47 = .ok (.if_icmp .eq 5, 3) := by decide +kernel
theorem dX0_isImage_50 : decode cX0_isImage 50 = .ok (.iconst 0, 1) := by decide +kernel
theorem dX0_isImage_51 : decode cX0_isImage 51 = .ok (.ireturn, 1) := by decide +kernel
theorem dX0_isImage_52 : decode cX0_isImage 52 = .ok (.iinc 3 1, 3) := by decide +kernel
theorem dX0_isImage_55 : decode cX0_isImage 55 = .ok (.goto (-53), 3) := by decide +kernel
theorem dX0_isImage_58 : decode cX0_isImage 58 = .ok (.iconst 1, 1) := by decide +kernel
theorem dX0_isImage_59 : decode cX0_isImage 59 = .ok (.ireturn, 1) := by decide +kernel
theorem dX1_init_0 : decode cX1_init 0 = .ok (.aload_n 0, 1) := by decide +kernel
theorem dX1_init_1 : decode cX1_init 1 = .ok (.invokespecial 3, 3) := by decide +kernel
theorem dX1_init_4 : decode cX1_init 4 = .ok (.aload_n 0, 1) := by decide +kernel
theorem dX1_init_5 : decode cX1_init 5 = .ok (.iload_n 1, 1) := by decide +kernel
theorem dX1_init_6 : decode cX1_init 6 = .ok (.putfield 9, 3) := by decide +kernel
theorem dX1_init_9 : decode cX1_init 9 = .ok (.aload_n 0, 1) := by decide +kernel
theorem dX1_init_10 : decode cX1_init 10 = .ok (.iload_n 2, 1) := by decide +kernel
theorem dX1_init_11 : decode cX1_init 11 = .ok (.putfield 15, 3) := by decide +kernel
theorem dX1_init_14 : decode cX1_init 14 = .ok (.aload_n 0, 1) := by decide +kernel
theorem dX1_init_15 : decode cX1_init 15 = .ok (.iload_n 1, 1) := by decide +kernel
theorem dX1_init_16 : decode cX1_init 16 = .ok (.newarray .boolean, 2) := by decide +kernel
theorem dX1_init_18 : decode cX1_init 18 = .ok (.putfield 18, 3) := by decide +kernel
theorem dX1_init_21 : decode cX1_init 21 = .ok (.aload_n 0, 1) := by decide +kernel
theorem dX1_init_22 : decode cX1_init 22 = .ok (.iconst 4, 1) := by decide +kernel
theorem dX1_init_23 : decode cX1_init 23 = .ok (.newarray .int, 2) := by decide +kernel
theorem dX1_init_25 : decode cX1_init 25 = .ok (.putfield 22, 3) := by decide +kernel
theorem dX1_init_28 : decode cX1_init 28 = .ok (.aload_n 0, 1) := by decide +kernel
theorem dX1_init_29 : decode cX1_init 29 = .ok (.iconst 4, 1) := by decide +kernel
theorem dX1_init_30 : decode cX1_init 30 = .ok (.newarray .int, 2) := by decide +kernel
theorem dX1_init_32 : decode cX1_init 32 = .ok (.putfield 26, 3) := by decide +kernel
theorem dX1_init_35 : decode cX1_init 35 = .ok (.aload_n 0, 1) := by decide +kernel
theorem dX1_init_36 : decode cX1_init 36 = .ok (.iconst 1, 1) := by decide +kernel
theorem dX1_init_37 : decode cX1_init 37 = .ok (.putfield 29, 3) := by decide +kernel
theorem dX1_init_40 : decode cX1_init 40 = .ok (.aload_n 0, 1) := by decide +kernel
theorem dX1_init_41 : decode cX1_init 41 = .ok (.iconst 1, 1) := by decide +kernel
theorem dX1_init_42 : decode cX1_init 42 = .ok (.putfield 32, 3) := by decide +kernel
theorem dX1_init_45 : decode cX1_init 45 = .ok (.return_, 1) := by decide +kernel
theorem dX1_has_0 : decode cX1_has 0 = .ok (.aload_n 0, 1) := by decide +kernel
theorem dX1_has_1 : decode cX1_has 1 = .ok (.getfield 18, 3) := by decide +kernel
theorem dX1_has_4 : decode cX1_has 4 = .ok (.iload_n 1, 1) := by decide +kernel
theorem dX1_has_5 : decode cX1_has 5 = .ok (.baload, 1) := by decide +kernel
theorem dX1_has_6 : decode cX1_has 6 = .ok (.ireturn, 1) := by decide +kernel
theorem dX1_change_0 : decode cX1_change 0 = .ok (.aload_n 0, 1) := by decide +kernel
theorem dX1_change_1 : decode cX1_change 1 = .ok (.getfield 18, 3) := by decide +kernel
theorem dX1_change_4 : decode cX1_change 4 = .ok (.iload_n 1, 1) := by decide +kernel
theorem dX1_change_5 : decode cX1_change 5 = .ok (.iload_n 2, 1) := by decide +kernel
theorem dX1_change_6 : decode cX1_change 6 = .ok (.bastore, 1) := by decide +kernel
theorem dX1_change_7 : decode cX1_change 7 = .ok (.aload_n 0, 1) := by decide +kernel
theorem dX1_change_8 : decode cX1_change 8 = .ok (.iconst 0, 1) := by decide +kernel
theorem dX1_change_9 : decode cX1_change 9 = .ok (.putfield 35, 3) := by decide +kernel
theorem dX1_change_12 : decode cX1_change 12 = .ok (.aload_n 0, 1) := by decide +kernel
theorem dX1_change_13 : decode cX1_change 13 = .ok (.iconst 1, 1) := by decide +kernel
theorem dX1_change_14 : decode cX1_change 14 = .ok (.putfield 29, 3) := by decide +kernel
theorem dX1_change_17 : decode cX1_change 17 = .ok (.aload_n 0, 1) := by decide +kernel
theorem dX1_change_18 : decode cX1_change 18 = .ok (.iconst 1, 1) := by decide +kernel
theorem dX1_change_19 : decode cX1_change 19 = .ok (.putfield 32, 3) := by decide +kernel
theorem dX1_change_22 : decode cX1_change 22 = .ok (.iconst 0, 1) := by decide +kernel
theorem dX1_change_23 : decode cX1_change 23 = .ok (.istore_n 3, 1) := by decide +kernel
theorem dX1_change_24 : decode cX1_change 24 = .ok (.iload_n 3, 1) := by decide +kernel
theorem dX1_change_25 : decode cX1_change 25 = .ok (.aload_n 0, 1) := by decide +kernel
theorem dX1_change_26 : decode cX1_change 26 = .ok (.getfield 9, 3) := by decide +kernel
theorem dX1_change_29 : decode cX1_change 29 = .ok (.if_icmp .ge 77, 3) := by decide +kernel
theorem dX1_change_32 : decode cX1_change 32 = .ok (.aload_n 0, 1) := by decide +kernel
theorem dX1_change_33 : decode cX1_change 33 = .ok (.getfield 18, 3) := by decide +kernel
theorem dX1_change_36 : decode cX1_change 36 = .ok (.iload_n 3, 1) := by decide +kernel
theorem dX1_change_37 : decode cX1_change 37 = .ok (.baload, 1) := by decide +kernel
theorem dX1_change_38 : decode cX1_change 38 = .ok (.ifCond .eq 62, 3) := by decide +kernel
theorem dX1_change_41 : decode cX1_change 41 = .ok (.aload_n 0, 1) := by decide +kernel
theorem dX1_change_42 : decode cX1_change 42 = .ok (.getfield 35, 3) := by decide +kernel
theorem dX1_change_45 : decode cX1_change 45 = .ok (.iconst 4, 1) := by decide +kernel
theorem dX1_change_46 : decode cX1_change 46 = .ok (.if_icmp .ge 54, 3) := by decide +kernel
theorem dX1_change_49 : decode cX1_change 49 = .ok (.aload_n 0, 1) := by decide +kernel
theorem dX1_change_50 : decode cX1_change 50 = .ok (.dup, 1) := by decide +kernel
theorem dX1_change_51 : decode cX1_change 51 = .ok (.getfield 29, 3) := by decide +kernel
theorem dX1_change_54 : decode cX1_change 54 = .ok (.aload_n 0, 1) := by decide +kernel
theorem dX1_change_55 : decode cX1_change 55 = .ok (.getfield 9, 3) := by decide +kernel
theorem dX1_change_58 : decode cX1_change 58 = .ok (.aload_n 0, 1) := by decide +kernel
theorem dX1_change_59 : decode cX1_change 59 = .ok (.getfield 35, 3) := by decide +kernel
theorem dX1_change_62 : decode cX1_change 62 = .ok (.isub, 1) := by decide +kernel
theorem dX1_change_63 : decode cX1_change 63 = .ok (.imul, 1) := by decide +kernel
theorem dX1_change_64 : decode cX1_change 64 = .ok (.putfield 29, 3) := by decide +kernel
theorem dX1_change_67 : decode cX1_change 67 = .ok (.aload_n 0, 1) := by decide +kernel
theorem dX1_change_68 : decode cX1_change 68 = .ok (.dup, 1) := by decide +kernel
theorem dX1_change_69 : decode cX1_change 69 = .ok (.getfield 32, 3) := by decide +kernel
theorem dX1_change_72 : decode cX1_change 72 = .ok (.aload_n 0, 1) := by decide +kernel
theorem dX1_change_73 : decode cX1_change 73 = .ok (.getfield 15, 3) := by decide +kernel
theorem dX1_change_76 : decode cX1_change 76 = .ok (.imul, 1) := by decide +kernel
theorem dX1_change_77 : decode cX1_change 77 = .ok (.putfield 32, 3) := by decide +kernel
theorem dX1_change_80 : decode cX1_change 80 = .ok (.aload_n 0, 1) := by decide +kernel
theorem dX1_change_81 : decode cX1_change 81 = .ok (.getfield 22, 3) := by decide +kernel
theorem dX1_change_84 : decode cX1_change 84 = .ok (.aload_n 0, 1) := by decide +kernel
theorem dX1_change_85 : decode cX1_change 85 = .ok (.getfield 35, 3) := by decide +kernel
theorem dX1_change_88 : decode cX1_change 88 = .ok (.iload_n 3, 1) := by decide +kernel
theorem dX1_change_89 : decode cX1_change 89 = .ok (.iastore, 1) := by decide +kernel
theorem dX1_change_90 : decode cX1_change 90 = .ok (.aload_n 0, 1) := by decide +kernel
theorem dX1_change_91 : decode cX1_change 91 = .ok (.dup, 1) := by decide +kernel
theorem dX1_change_92 : decode cX1_change 92 = .ok (.getfield 35, 3) := by decide +kernel
theorem dX1_change_95 : decode cX1_change 95 = .ok (.iconst 1, 1) := by decide +kernel
theorem dX1_change_96 : decode cX1_change 96 = .ok (.iadd, 1) := by decide +kernel
theorem dX1_change_97 : decode cX1_change 97 = .ok (.putfield 35, 3) := by decide +kernel
theorem dX1_change_100 : decode cX1_change 100 = .ok (.iinc 3 1, 3) := by decide +kernel
theorem dX1_change_103 : decode cX1_change 103 = .ok (.goto (-79), 3) := by decide +kernel
theorem dX1_change_106 : decode cX1_change 106 = .ok (.return_, 1) := by decide +kernel
theorem dX1_stateCount_0 : decode cX1_stateCount 0 = .ok (.aload_n 0, 1) := by decide +kernel
theorem dX1_stateCount_1 : decode cX1_stateCount 1 = .ok (.getfield 29, 3) := by decide +kernel
theorem dX1_stateCount_4 : decode cX1_stateCount 4 = .ok (.aload_n 0, 1) := by decide +kernel
theorem dX1_stateCount_5 : decode cX1_stateCount 5 = .ok (.getfield 32, 3) := by decide +kernel
theorem dX1_stateCount_8 : decode cX1_stateCount 8 = .ok (.imul, 1) := by decide +kernel
theorem dX1_stateCount_9 : decode cX1_stateCount 9 = .ok (.ireturn, 1) := by decide +kernel
set_option maxRecDepth 20000 in
theorem ggX1_numberOf_J6_bitCount_0f7a4 : GoodIn wsX1_numberOf wsJ6_bitCount_0f7a4 := goodIn_r _ [8, 9, 10, 11] (by decide +kernel) (by decide +kernel)
set_option maxRecDepth 20000 in
theorem gX1_numberOf_J6_bitCount_0f7a4 : GoodIn wsX1_numberOf (va_wsS RX1 43 yJ6_bitCount_0f7a4 wsJ6_bitCount_0f7a4) := goodIn_app (goodIn_of _ (by decide +kernel)) ggX1_numberOf_J6_bitCount_0f7a4
theorem dX1_numberOf_0 : decode cX1_numberOf 0 = .ok (.iconst 0, 1) := by decide +kernel
theorem dX1_numberOf_1 : decode cX1_numberOf 1 = .ok (.istore_n 2, 1) := by decide +kernel
theorem dX1_numberOf_2 : decode cX1_numberOf 2 = .ok (.iconst 0, 1) := by decide +kernel
theorem dX1_numberOf_3 : decode cX1_numberOf 3 = .ok (.istore_n 3, 1) := by decide +kernel
theorem dX1_numberOf_4 : decode cX1_numberOf 4 = .ok (.iconst 0, 1) := by decide +kernel
theorem dX1_numberOf_5 : decode cX1_numberOf 5 = .ok (.istore 4, 2) := by decide +kernel
theorem dX1_numberOf_7 : decode cX1_numberOf 7 = .ok (.iload 4, 2) := by decide +kernel
theorem dX1_numberOf_9 : decode cX1_numberOf 9 = .ok (.aload_n 0, 1) := by decide +kernel
theorem dX1_numberOf_10 : decode cX1_numberOf 10 = .ok (.getfield 35, 3) := by decide +kernel
theorem dX1_numberOf_13 : decode cX1_numberOf 13 = .ok (.if_icmp .ge 59, 3) := by decide +kernel
theorem dX1_numberOf_16 : decode cX1_numberOf 16 = .ok (.aload_n 1, 1) := by decide +kernel
theorem dX1_numberOf_17 : decode cX1_numberOf 17 = .ok (.getfield 38, 3) := by decide +kernel
theorem dX1_numberOf_20 : decode cX1_numberOf 20 = .ok (.aload_n 0, 1) := by decide +kernel
theorem dX1_numberOf_21 : decode cX1_numberOf 21 = .ok (.getfield 22, 3) := by decide +kernel
theorem dX1_numberOf_24 : decode cX1_numberOf 24 = .ok (.iload 4, 2) := by decide +kernel
theorem dX1_numberOf_26 : decode cX1_numberOf 26 = .ok (.iaload, 1) := by decide +kernel
theorem dX1_numberOf_27 : decode cX1_numberOf 27 = .ok (.iaload, 1) := by decide +kernel
theorem dX1_numberOf_28 : decode cX1_numberOf 28 = .ok (.istore 5, 2) := by decide +kernel
theorem dX1_numberOf_30 : decode cX1_numberOf 30 = .ok (.iconst 1, 1) := by decide +kernel
theorem dX1_numberOf_31 : decode cX1_numberOf 31 = .ok (.iload 5, 2) := by decide +kernel
theorem dX1_numberOf_33 : decode cX1_numberOf 33 = .ok (.ishl, 1) := by decide +kernel
theorem dX1_numberOf_34 : decode cX1_numberOf 34 = .ok (.iconst 1, 1) := by decide +kernel
theorem dX1_numberOf_35 : decode cX1_numberOf 35 = .ok (.isub, 1) := by decide +kernel
theorem dX1_numberOf_36 : decode cX1_numberOf 36 = .ok (.istore 6, 2) := by decide +kernel
theorem dX1_numberOf_38 : decode cX1_numberOf 38 = .ok (.iload_n 2, 1) := by decide +kernel
theorem dX1_numberOf_39 : decode cX1_numberOf 39 = .ok (.aload_n 0, 1) := by decide +kernel
theorem dX1_numberOf_40 : decode cX1_numberOf 40 = .ok (.getfield 9, 3) := by decide +kernel
theorem dX1_numberOf_43 : decode cX1_numberOf 43 = .ok (.iload 4, 2) := by decide +kernel
theorem dX1_numberOf_45 : decode cX1_numberOf 45 = .ok (.isub, 1) := by decide +kernel
theorem dX1_numberOf_46 : decode cX1_numberOf 46 = .ok (.imul, 1) := by decide +kernel
theorem dX1_numberOf_47 : decode cX1_numberOf 47 = .ok (.iload 5, 2) := by decide +kernel
theorem dX1_numberOf_49 : decode cX1_numberOf 49 = .ok (.iadd, 1) := by decide +kernel
theorem dX1_numberOf_50 : decode cX1_numberOf 50 = .ok (.iload_n 3, 1) := by decide +kernel
theorem dX1_numberOf_51 : decode cX1_numberOf 51 = .ok (.iload 6, 2) := by decide +kernel
theorem dX1_numberOf_53 : decode cX1_numberOf 53 = .ok (.iand, 1) := by decide +kernel
theorem dX1_numberOf_54 : decode cX1_numberOf 54 = .ok (.invokestatic 43, 3) := by decide +kernel
theorem dX1_numberOf_57 : decode cX1_numberOf 57 = .ok (.isub, 1) := by decide +kernel
theorem dX1_numberOf_58 : decode cX1_numberOf 58 = .ok (.istore_n 2, 1) := by decide +kernel
theorem dX1_numberOf_59 : decode cX1_numberOf 59 = .ok (.iload_n 3, 1) := by decide +kernel
theorem dX1_numberOf_60 : decode cX1_numberOf 60 = .ok (.iconst 1, 1) := by decide +kernel
theorem dX1_numberOf_61 : decode cX1_numberOf 61 = .ok (.iload 5, 2) := by decide +kernel
theorem dX1_numberOf_63 : decode cX1_numberOf 63 = .ok (.ishl, 1) := by decide +kernel
theorem dX1_numberOf_64 : decode cX1_numberOf 64 = .ok (.ior, 1) := by decide +kernel
theorem dX1_numberOf_65 : decode cX1_numberOf 65 = .ok (.istore_n 3, 1) := by decide +kernel
theorem dX1_numberOf_66 : decode cX1_numberOf 66 = .ok (.iinc 4 1, 3) := by decide +kernel
theorem dX1_numberOf_69 : decode cX1_numberOf 69 = .ok (.goto (-62), 3) := by decide +kernel
theorem dX1_numberOf_72 : decode cX1_numberOf 72 = .ok (.iconst 0, 1) := by decide +kernel
theorem dX1_numberOf_73 : decode cX1_numberOf 73 = .ok (.istore 4, 2) := by decide +kernel
theorem dX1_numberOf_75 : decode cX1_numberOf 75 = .ok (.iload 4, 2) := by decide +kernel
theorem dX1_numberOf_77 : decode cX1_numberOf 77 = .ok (.aload_n 0, 1) := by decide +kernel
theorem dX1_numberOf_78 : decode cX1_numberOf 78 = .ok (.getfield 35, 3) := by decide +kernel
theorem dX1_numberOf_81 : decode cX1_numberOf 81 = .ok (.if_icmp .ge 29, 3) := by decide +kernel
theorem dX1_numberOf_84 : decode cX1_numberOf 84 = .ok (.iload_n 2, 1) := by decide +kernel
theorem dX1_numberOf_85 : decode cX1_numberOf 85 = .ok (.aload_n 0, 1) := by decide +kernel
theorem dX1_numberOf_86 : decode cX1_numberOf 86 = .ok (.getfield 15, 3) := by decide +kernel
theorem dX1_numberOf_89 : decode cX1_numberOf 89 = .ok (.imul, 1) := by decide +kernel
theorem dX1_numberOf_90 : decode cX1_numberOf 90 = .ok (.aload_n 1, 1) := by decide +kernel
theorem dX1_numberOf_91 : decode cX1_numberOf 91 = .ok (.getfield 49, 3) := by decide +kernel
theorem dX1_numberOf_94 : decode cX1_numberOf 94 = .ok (.aload_n 0, 1) := by decide +kernel
theorem dX1_numberOf_95 : decode cX1_numberOf 95 = .ok (.getfield 22, 3) := by decide +kernel
theorem dX1_numberOf_98 : decode cX1_numberOf 98 = .ok (.iload 4, 2) := by decide +kernel
theorem dX1_numberOf_100 : decode cX1_numberOf 100 = .ok (.iaload, 1) := by decide +kernel
theorem dX1_numberOf_101 : decode cX1_numberOf 101 = .ok (.iaload, 1) := by decide +kernel
theorem dX1_numberOf_102 : decode cX1_numberOf 102 = .ok (.iadd, 1) := by decide +kernel
theorem dX1_numberOf_103 : decode cX1_numberOf 103 = .ok (.istore_n 2, 1) := by decide +kernel
theorem dX1_numberOf_104 : decode cX1_numberOf 104 = .ok (.iinc 4 1, 3) := by decide +kernel
theorem dX1_numberOf_107 : decode cX1_numberOf 107 = .ok (.goto (-32), 3) := by decide +kernel
theorem dX1_numberOf_110 : decode cX1_numberOf 110 = .ok (.iload_n 2, 1) := by decide +kernel
theorem dX1_numberOf_111 : decode cX1_numberOf 111 = .ok (.ireturn, 1) := by decide +kernel
set_option maxRecDepth 20000 in
theorem ggX1_read_X1_readTwisting : GoodIn wsX1_read wsX1_readTwisting := goodIn_ca (goodIn_r _ [6, 7, 8, 9, 20, 21, 22, 23, 24, 25, 26, 27, 28, 29] (by decide +kernel) (by decide +kernel)) (goodIn_sub (fun _ h => List.mem_cons_of_mem _ (List.mem_append_right _ h)) (by decide +kernel))
set_option maxRecDepth 20000 in
theorem gX1_read_X1_readTwisting : GoodIn wsX1_read (wsV RX1 52 RX1 yX1_readTwisting wsX1_readTwisting) := goodIn_app (goodIn_of _ (by decide +kernel)) ggX1_read_X1_readTwisting
set_option maxRecDepth 20000 in
theorem ggX1_read_X1_readArrangement : GoodIn wsX1_read wsX1_readArrangement := goodIn_ca (goodIn_r _ [13, 7, 14, 15, 8, 16, 17, 18, 5, 19, 20, 21, 22, 23, 24, 25, 26, 27, 28, 29] (by decide +kernel) (by decide +kernel)) (goodIn_sub (fun _ h => List.mem_cons_of_mem _ (List.mem_append_right _ h)) (by decide +kernel))
set_option maxRecDepth 20000 in
theorem gX1_read_X1_readArrangement : GoodIn wsX1_read (wsV RX1 56 RX1 yX1_readArrangement wsX1_readArrangement) := goodIn_app (goodIn_of _ (by decide +kernel)) ggX1_read_X1_readArrangement
theorem dX1_read_0 : decode cX1_read 0 = .ok (.aload_n 0, 1) := by decide +kernel
theorem dX1_read_1 : decode cX1_read 1 = .ok (.iload_n 1, 1) := by decide +kernel
theorem dX1_read_2 : decode cX1_read 2 = .ok (.aload_n 0, 1) := by decide +kernel
theorem dX1_read_3 : decode cX1_read 3 = .ok (.getfield 32, 3) := by decide +kernel
theorem dX1_read_6 : decode cX1_read 6 = .ok (.irem, 1) := by decide +kernel
theorem dX1_read_7 : decode cX1_read 7 = .ok (.aload_n 2, 1) := by decide +kernel
theorem dX1_read_8 : decode cX1_read 8 = .ok (.invokevirtual 52, 3) := by decide +kernel
theorem dX1_read_11 : decode cX1_read 11 = .ok (.aload_n 0, 1) := by decide +kernel
theorem dX1_read_12 : decode cX1_read 12 = .ok (.iload_n 1, 1) := by decide +kernel
theorem dX1_read_13 : decode cX1_read 13 = .ok (.aload_n 0, 1) := by decide +kernel
theorem dX1_read_14 : decode cX1_read 14 = .ok (.getfield 32, 3) := by decide +kernel
theorem dX1_read_17 : decode cX1_read 17 = .ok (.idiv, 1) := by decide +kernel
theorem dX1_read_18 : decode cX1_read 18 = .ok (.aload_n 2, 1) := by decide +kernel
theorem dX1_read_19 : decode cX1_read 19 = .ok (.invokevirtual 56, 3) := by decide +kernel
theorem dX1_read_22 : decode cX1_read 22 = .ok (.return_, 1) := by decide +kernel
theorem dX1_readTwisting_0 : decode cX1_readTwisting 0 = .ok (.iload_n 1, 1) := by decide +kernel
theorem dX1_readTwisting_1 : decode cX1_readTwisting 1 = .ok (.istore_n 3, 1) := by decide +kernel
theorem dX1_readTwisting_2 : decode cX1_readTwisting 2 = .ok (.aload_n 0, 1) := by decide +kernel
theorem dX1_readTwisting_3 : decode cX1_readTwisting 3 = .ok (.getfield 35, 3) := by decide +kernel
theorem dX1_readTwisting_6 : decode cX1_readTwisting 6 = .ok (.iconst 1, 1) := by decide +kernel
theorem dX1_readTwisting_7 : decode cX1_readTwisting 7 = .ok (.isub, 1) := by decide +kernel
theorem dX1_readTwisting_8 : decode cX1_readTwisting 8 = .ok (.istore 4, 2) := by decide +kernel
theorem dX1_readTwisting_10 : decode cX1_readTwisting 10 = .ok (.iload 4, 2) := by decide +kernel
theorem dX1_readTwisting_12 : decode cX1_readTwisting 12 = .ok (.ifCond .lt 34, 3) := by decide +kernel
theorem dX1_readTwisting_15 : decode cX1_readTwisting 15 = .ok (.aload_n 2, 1) := by decide +kernel
theorem dX1_readTwisting_16 : decode cX1_readTwisting 16 = .ok (.getfield 49, 3) := by decide +kernel
theorem dX1_readTwisting_19 : decode cX1_readTwisting 19 = .ok (.aload_n 0, 1) := by decide +kernel
theorem dX1_readTwisting_20 : decode cX1_readTwisting 20 = .ok (.getfield 22, 3) := by decide +kernel
theorem dX1_readTwisting_23 : decode cX1_readTwisting 23 = .ok (.iload 4, 2) := by decide +kernel
theorem dX1_readTwisting_25 : decode cX1_readTwisting 25 = .ok (.iaload, 1) := by decide +kernel
theorem dX1_readTwisting_26 : decode cX1_readTwisting 26 = .ok (.iload_n 3, 1) := by decide +kernel
theorem dX1_readTwisting_27 : decode cX1_readTwisting 27 = .ok (.aload_n 0, 1) := by decide +kernel
theorem dX1_readTwisting_28 : decode cX1_readTwisting 28 = .ok (.getfield 15, 3) := by decide +kernel
theorem dX1_readTwisting_31 : decode cX1_readTwisting 31 = .ok (.irem, 1) := by decide +kernel
theorem dX1_readTwisting_32 : decode cX1_readTwisting 32 = .ok (.iastore, 1) := by decide +kernel
theorem dX1_readTwisting_33 : decode cX1_readTwisting 33 = .ok (.iload_n 3, 1) := by decide +kernel
theorem dX1_readTwisting_34 : decode cX1_readTwisting 34 = .ok (.aload_n 0, 1) := by decide +kernel
theorem dX1_readTwisting_35 : decode cX1_readTwisting 35 = .ok (.getfield 15, 3) := by decide +kernel
theorem dX1_readTwisting_38 : decode cX1_readTwisting 38 = .ok (.idiv, 1) := by decide +kernel
theorem dX1_readTwisting_39 : decode cX1_readTwisting 39 = .ok (.istore_n 3, 1) := by decide +kernel
theorem dX1_readTwisting_40 : decode cX1_readTwisting 40 = .ok (.iinc 4 (-1), 3) := by decide +kernel
theorem dX1_readTwisting_43 : decode cX1_readTwisting 43 = .ok (.goto (-33), 3) := by decide +kernel
theorem dX1_readTwisting_46 : decode cX1_readTwisting 46 = .ok (.return_, 1) := by decide +kernel
set_option maxRecDepth 20000 in
theorem ggX1_readArrangement_X1_freePlace : GoodIn wsX1_readArrangement wsX1_freePlace := goodIn_r _ [9, 3, 10, 11, 12, 13, 14, 15, 16, 17] (by decide +kernel) (by decide +kernel)
set_option maxRecDepth 20000 in
theorem gX1_readArrangement_X1_freePlace : GoodIn wsX1_readArrangement (wsV RX1 59 RX1 yX1_freePlace wsX1_freePlace) := goodIn_app (goodIn_of _ (by decide +kernel)) ggX1_readArrangement_X1_freePlace
theorem dX1_readArrangement_0 : decode cX1_readArrangement 0 = .ok (.iload_n 1, 1) := by decide +kernel
theorem dX1_readArrangement_1 : decode cX1_readArrangement 1 = .ok (.istore_n 3, 1) := by decide +kernel
theorem dX1_readArrangement_2 : decode cX1_readArrangement 2 = .ok (.aload_n 0, 1) := by decide +kernel
theorem dX1_readArrangement_3 : decode cX1_readArrangement 3 = .ok (.getfield 35, 3) := by decide +kernel
theorem dX1_readArrangement_6 : decode cX1_readArrangement 6 = .ok (.iconst 1, 1) := by decide +kernel
theorem dX1_readArrangement_7 : decode cX1_readArrangement 7 = .ok (.isub, 1) := by decide +kernel
theorem dX1_readArrangement_8 : decode cX1_readArrangement 8 = .ok (.istore 4, 2) := by decide +kernel
theorem dX1_readArrangement_10 : decode cX1_readArrangement 10 = .ok (.iload 4, 2) := by decide +kernel
theorem dX1_readArrangement_12 : decode cX1_readArrangement 12 = .ok (.ifCond .lt 35, 3) := by decide +kernel
theorem dX1_readArrangement_15 : decode cX1_readArrangement 15 = .ok (.aload_n 0, 1) := by decide +kernel
theorem dX1_readArrangement_16 : decode cX1_readArrangement 16 = .ok (.getfield 26, 3) := by decide +kernel
theorem dX1_readArrangement_19 : decode cX1_readArrangement 19 = .ok (.iload 4, 2) := by decide +kernel
theorem dX1_readArrangement_21 : decode cX1_readArrangement 21 = .ok (.iload_n 3, 1) := by decide +kernel
theorem dX1_readArrangement_22 : decode cX1_readArrangement 22 = .ok (.aload_n 0, 1) := by decide +kernel
theorem dX1_readArrangement_23 : decode cX1_readArrangement 23 = .ok (.getfield 9, 3) := by decide +kernel
theorem dX1_readArrangement_26 : decode cX1_readArrangement 26 = .ok (.iload 4, 2) := by decide +kernel
theorem dX1_readArrangement_28 : decode cX1_readArrangement 28 = .ok (.isub, 1) := by decide +kernel
theorem dX1_readArrangement_29 : decode cX1_readArrangement 29 = .ok (.irem, 1) := by decide +kernel
theorem dX1_readArrangement_30 : decode cX1_readArrangement 30 = .ok (.iastore, 1) := by decide +kernel
theorem dX1_readArrangement_31 : decode cX1_readArrangement 31 = .ok (.iload_n 3, 1) := by decide +kernel
theorem dX1_readArrangement_32 : decode cX1_readArrangement 32 = .ok (.aload_n 0, 1) := by decide +kernel
theorem dX1_readArrangement_33 : decode cX1_readArrangement 33 = .ok (.getfield 9, 3) := by decide +kernel
theorem dX1_readArrangement_36 : decode cX1_readArrangement 36 = .ok (.iload 4, 2) := by decide +kernel
theorem dX1_readArrangement_38 : decode cX1_readArrangement 38 = .ok (.isub, 1) := by decide +kernel
theorem dX1_readArrangement_39 : decode cX1_readArrangement 39 = .ok (.idiv, 1) := by decide +kernel
theorem dX1_readArrangement_40 : decode cX1_readArrangement 40 = .ok (.istore_n 3, 1) := by decide +kernel
theorem dX1_readArrangement_41 : decode cX1_readArrangement 41 = .ok (.iinc 4 (-1), 3) := by decide +kernel
theorem dX1_readArrangement_44 : decode cX1_readArrangement 44 = .ok (.goto (-34), 3) := by decide +kernel
theorem dX1_readArrangement_47 : decode cX1_readArrangement 47 = .ok (.iconst 0, 1) := by decide +kernel
theorem dX1_readArrangement_48 : decode cX1_readArrangement 48 = .ok (.istore 4, 2) := by decide +kernel
theorem dX1_readArrangement_50 : decode cX1_readArrangement 50 = .ok (.iconst 0, 1) := by decide +kernel
theorem dX1_readArrangement_51 : decode cX1_readArrangement 51 = .ok (.istore 5, 2) := by decide +kernel
theorem dX1_readArrangement_53 : decode cX1_readArrangement 53 = .ok (.iload 5, 2) := by decide +kernel
theorem dX1_readArrangement_55 : decode cX1_readArrangement 55 = .ok (.aload_n 0, 1) := by decide +kernel
theorem dX1_readArrangement_56 : decode cX1_readArrangement 56 = .ok (.getfield 35, 3) := by decide +kernel
theorem dX1_readArrangement_59 : decode cX1_readArrangement 59 = .ok (.if_icmp .ge 47, 3) := by decide +kernel
theorem dX1_readArrangement_62 : decode cX1_readArrangement 62 = .ok (.aload_n 0, 1) := by decide +kernel
theorem dX1_readArrangement_63 : decode cX1_readArrangement 63 = .ok (.iload 4, 2) := by decide +kernel
theorem dX1_readArrangement_65 : decode cX1_readArrangement 65 = .ok (.aload_n 0, 1) := by decide +kernel
theorem dX1_readArrangement_66 : decode cX1_readArrangement 66 = .ok (.getfield 26, 3) := by decide +kernel
theorem dX1_readArrangement_69 : decode cX1_readArrangement 69 = .ok (.iload 5, 2) := by decide +kernel
theorem dX1_readArrangement_71 : decode cX1_readArrangement 71 = .ok (.iaload, 1) := by decide +kernel
theorem dX1_readArrangement_72 : decode cX1_readArrangement 72 = .ok (.invokevirtual 59, 3) := by decide +kernel
theorem dX1_readArrangement_75 : decode cX1_readArrangement 75 = .ok (.istore 6, 2) := by decide +kernel
theorem dX1_readArrangement_77 : decode cX1_readArrangement 77 = .ok (.aload_n 2, 1) := by decide +kernel
theorem dX1_readArrangement_78 : decode cX1_readArrangement 78 = .ok (.getfield 38, 3) := by decide +kernel
theorem dX1_readArrangement_81 : decode cX1_readArrangement 81 = .ok (.aload_n 0, 1) := by decide +kernel
theorem dX1_readArrangement_82 : decode cX1_readArrangement 82 = .ok (.getfield 22, 3) := by decide +kernel
theorem dX1_readArrangement_85 : decode cX1_readArrangement 85 = .ok (.iload 5, 2) := by decide +kernel
theorem dX1_readArrangement_87 : decode cX1_readArrangement 87 = .ok (.iaload, 1) := by decide +kernel
theorem dX1_readArrangement_88 : decode cX1_readArrangement 88 = .ok (.iload 6, 2) := by decide +kernel
theorem dX1_readArrangement_90 : decode cX1_readArrangement 90 = .ok (.iastore, 1) := by decide +kernel
theorem dX1_readArrangement_91 : decode cX1_readArrangement 91 = .ok (.iload 4, 2) := by decide +kernel
theorem dX1_readArrangement_93 : decode cX1_readArrangement 93 = .ok (.iconst 1, 1) := by decide +kernel
theorem dX1_readArrangement_94 : decode cX1_readArrangement 94 = .ok (.iload 6, 2) := by decide +kernel
theorem dX1_readArrangement_96 : decode cX1_readArrangement 96 = .ok (.ishl, 1) := by decide +kernel
theorem dX1_readArrangement_97 : decode cX1_readArrangement 97 = .ok (.ior, 1) := by decide +kernel
theorem dX1_readArrangement_98 : decode cX1_readArrangement 98 = .ok (.istore 4, 2) := by decide +kernel
theorem dX1_readArrangement_100 : decode cX1_readArrangement 100 = .ok (.iinc 5 1, 3) := by decide +kernel
theorem dX1_readArrangement_103 : decode cX1_readArrangement 103 = .ok (.goto (-50), 3) := by decide +kernel
theorem dX1_readArrangement_106 : decode cX1_readArrangement 106 = .ok (.return_, 1) := by decide +kernel
theorem dX1_freePlace_0 : decode cX1_freePlace 0 = .ok (.iload_n 2, 1) := by decide +kernel
theorem dX1_freePlace_1 : decode cX1_freePlace 1 = .ok (.istore_n 3, 1) := by decide +kernel
theorem dX1_freePlace_2 : decode cX1_freePlace 2 = .ok (.iconst 0, 1) := by decide +kernel
theorem dX1_freePlace_3 : decode cX1_freePlace 3 = .ok (.istore 4, 2) := by decide +kernel
theorem dX1_freePlace_5 : decode cX1_freePlace 5 = .ok (.iload 4, 2) := by decide +kernel
theorem dX1_freePlace_7 : decode cX1_freePlace 7 = .ok (.aload_n 0, 1) := by decide +kernel
theorem dX1_freePlace_8 : decode cX1_freePlace 8 = .ok (.getfield 9, 3) := by decide +kernel
theorem dX1_freePlace_11 : decode cX1_freePlace 11 = .ok (.if_icmp .ge 28, 3) := by decide +kernel
theorem dX1_freePlace_14 : decode cX1_freePlace 14 = .ok (.iload_n 1, 1) := by decide +kernel
theorem dX1_freePlace_15 : decode cX1_freePlace 15 = .ok (.iload 4, 2) := by decide +kernel
theorem dX1_freePlace_17 : decode cX1_freePlace 17 = .ok (.ishr, 1) := by decide +kernel
theorem dX1_freePlace_18 : decode cX1_freePlace 18 = .ok (.iconst 1, 1) := by decide +kernel
theorem dX1_freePlace_19 : decode cX1_freePlace 19 = .ok (.iand, 1) := by decide +kernel
theorem dX1_freePlace_20 : decode cX1_freePlace 20 = .ok (.ifCond .ne 13, 3) := by decide +kernel
theorem dX1_freePlace_23 : decode cX1_freePlace 23 = .ok (.iload_n 3, 1) := by decide +kernel
theorem dX1_freePlace_24 : decode cX1_freePlace 24 = .ok (.ifCond .ne 6, 3) := by decide +kernel
theorem dX1_freePlace_27 : decode cX1_freePlace 27 = .ok (.iload 4, 2) := by decide +kernel
theorem dX1_freePlace_29 : decode cX1_freePlace 29 = .ok (.ireturn, 1) := by decide +kernel
theorem dX1_freePlace_30 : decode cX1_freePlace 30 = .ok (.iinc 3 (-1), 3) := by decide +kernel
theorem dX1_freePlace_33 : decode cX1_freePlace 33 = .ok (.iinc 4 1, 3) := by decide +kernel
theorem dX1_freePlace_36 : decode cX1_freePlace 36 = .ok (.goto (-31), 3) := by decide +kernel
theorem dX1_freePlace_39 : decode cX1_freePlace 39 = .ok (.aload_n 0, 1) := by decide +kernel
theorem dX1_freePlace_40 : decode cX1_freePlace 40 = .ok (.getfield 9, 3) := by decide +kernel
theorem dX1_freePlace_43 : decode cX1_freePlace 43 = .ok (.iconst 1, 1) := by decide +kernel
theorem dX1_freePlace_44 : decode cX1_freePlace 44 = .ok (.isub, 1) := by decide +kernel
theorem dX1_freePlace_45 : decode cX1_freePlace 45 = .ok (.ireturn, 1) := by decide +kernel
theorem dX1_twistingSum_0 : decode cX1_twistingSum 0 = .ok (.iconst 0, 1) := by decide +kernel
theorem dX1_twistingSum_1 : decode cX1_twistingSum 1 = .ok (.istore_n 3, 1) := by decide +kernel
theorem dX1_twistingSum_2 : decode cX1_twistingSum 2 = .ok (.iconst 1, 1) := by decide +kernel
theorem dX1_twistingSum_3 : decode cX1_twistingSum 3 = .ok (.istore 4, 2) := by decide +kernel
theorem dX1_twistingSum_5 : decode cX1_twistingSum 5 = .ok (.iload_n 1, 1) := by decide +kernel
theorem dX1_twistingSum_6 : decode cX1_twistingSum 6 = .ok (.istore 5, 2) := by decide +kernel
theorem dX1_twistingSum_8 : decode cX1_twistingSum 8 = .ok (.iload_n 2, 1) := by decide +kernel
theorem dX1_twistingSum_9 : decode cX1_twistingSum 9 = .ok (.istore 6, 2) := by decide +kernel
theorem dX1_twistingSum_11 : decode cX1_twistingSum 11 = .ok (.iconst 0, 1) := by decide +kernel
theorem dX1_twistingSum_12 : decode cX1_twistingSum 12 = .ok (.istore 7, 2) := by decide +kernel
theorem dX1_twistingSum_14 : decode cX1_twistingSum 14 = .ok (.iload 7, 2) := by decide +kernel
theorem dX1_twistingSum_16 : decode cX1_twistingSum 16 = .ok (.aload_n 0, 1) := by decide +kernel
theorem dX1_twistingSum_17 : decode cX1_twistingSum 17 = .ok (.getfield 35, 3) := by decide +kernel
theorem dX1_twistingSum_20 : decode cX1_twistingSum 20 = .ok (.if_icmp .ge 52, 3) := by decide +kernel
theorem dX1_twistingSum_23 : decode cX1_twistingSum 23 = .ok (.iload_n 3, 1) := by decide +kernel
theorem dX1_twistingSum_24 : decode cX1_twistingSum 24 = .ok (.iload 5, 2) := by decide +kernel
theorem dX1_twistingSum_26 : decode cX1_twistingSum 26 = .ok (.iload 6, 2) := by decide +kernel
theorem dX1_twistingSum_28 : decode cX1_twistingSum 28 = .ok (.iadd, 1) := by decide +kernel
theorem dX1_twistingSum_29 : decode cX1_twistingSum 29 = .ok (.aload_n 0, 1) := by decide +kernel
theorem dX1_twistingSum_30 : decode cX1_twistingSum 30 = .ok (.getfield 15, 3) := by decide +kernel
theorem dX1_twistingSum_33 : decode cX1_twistingSum 33 = .ok (.irem, 1) := by decide +kernel
theorem dX1_twistingSum_34 : decode cX1_twistingSum 34 = .ok (.iload 4, 2) := by decide +kernel
theorem dX1_twistingSum_36 : decode cX1_twistingSum 36 = .ok (.imul, 1) := by decide +kernel
theorem dX1_twistingSum_37 : decode cX1_twistingSum 37 = .ok (.iadd, 1) := by decide +kernel
theorem dX1_twistingSum_38 : decode cX1_twistingSum 38 = .ok (.istore_n 3, 1) := by decide +kernel
theorem dX1_twistingSum_39 : decode cX1_twistingSum 39 = .ok (.iload 5, 2) := by decide +kernel
theorem dX1_twistingSum_41 : decode cX1_twistingSum 41 = .ok (.aload_n 0, 1) := by decide +kernel
theorem dX1_twistingSum_42 : decode cX1_twistingSum 42 = .ok (.getfield 15, 3) := by decide +kernel
theorem dX1_twistingSum_45 : decode cX1_twistingSum 45 = .ok (.idiv, 1) := by decide +kernel
theorem dX1_twistingSum_46 : decode cX1_twistingSum 46 = .ok (.istore 5, 2) := by decide +kernel
theorem dX1_twistingSum_48 : decode cX1_twistingSum 48 = .ok (.iload 6, 2) := by decide +kernel
theorem dX1_twistingSum_50 : decode cX1_twistingSum 50 = .ok (.aload_n 0, 1) := by decide +kernel
theorem dX1_twistingSum_51 : decode cX1_twistingSum 51 = .ok (.getfield 15, 3) := by decide +kernel
theorem dX1_twistingSum_54 : decode cX1_twistingSum 54 = .ok (.idiv, 1) := by decide +kernel
theorem dX1_twistingSum_55 : decode cX1_twistingSum 55 = .ok (.istore 6, 2) := by decide +kernel
theorem dX1_twistingSum_57 : decode cX1_twistingSum 57 = .ok (.iload 4, 2) := by decide +kernel
theorem dX1_twistingSum_59 : decode cX1_twistingSum 59 = .ok (.aload_n 0, 1) := by decide +kernel
theorem dX1_twistingSum_60 : decode cX1_twistingSum 60 = .ok (.getfield 15, 3) := by decide +kernel
theorem dX1_twistingSum_63 : decode cX1_twistingSum 63 = .ok (.imul, 1) := by decide +kernel
theorem dX1_twistingSum_64 : decode cX1_twistingSum 64 = .ok (.istore 4, 2) := by decide +kernel
theorem dX1_twistingSum_66 : decode cX1_twistingSum 66 = .ok (.iinc 7 1, 3) := by decide +kernel
theorem dX1_twistingSum_69 : decode cX1_twistingSum 69 = .ok (.goto (-55), 3) := by decide +kernel
theorem dX1_twistingSum_72 : decode cX1_twistingSum 72 = .ok (.iload_n 3, 1) := by decide +kernel
theorem dX1_twistingSum_73 : decode cX1_twistingSum 73 = .ok (.ireturn, 1) := by decide +kernel
theorem dX2_init_0 : decode cX2_init 0 = .ok (.aload_n 0, 1) := by decide +kernel
theorem dX2_init_1 : decode cX2_init 1 = .ok (.invokespecial 1, 3) := by decide +kernel
theorem dX2_init_4 : decode cX2_init 4 = .ok (.aload_n 0, 1) := by decide +kernel
theorem dX2_init_5 : decode cX2_init 5 = .ok (.iconst 0, 1) := by decide +kernel
theorem dX2_init_6 : decode cX2_init 6 = .ok (.newarray .int, 2) := by decide +kernel
theorem dX2_init_8 : decode cX2_init 8 = .ok (.putfield 7, 3) := by decide +kernel
theorem dX2_init_11 : decode cX2_init 11 = .ok (.aload_n 0, 1) := by decide +kernel
theorem dX2_init_12 : decode cX2_init 12 = .ok (.iconst 0, 1) := by decide +kernel
theorem dX2_init_13 : decode cX2_init 13 = .ok (.newarray .int, 2) := by decide +kernel
theorem dX2_init_15 : decode cX2_init 15 = .ok (.putfield 13, 3) := by decide +kernel
theorem dX2_init_18 : decode cX2_init 18 = .ok (.aload_n 0, 1) := by decide +kernel
theorem dX2_init_19 : decode cX2_init 19 = .ok (.iconst 0, 1) := by decide +kernel
theorem dX2_init_20 : decode cX2_init 20 = .ok (.newarray .int, 2) := by decide +kernel
theorem dX2_init_22 : decode cX2_init 22 = .ok (.putfield 16, 3) := by decide +kernel
theorem dX2_init_25 : decode cX2_init 25 = .ok (.return_, 1) := by decide +kernel
theorem dX2_forget_0 : decode cX2_forget 0 = .ok (.aload_n 0, 1) := by decide +kernel
theorem dX2_forget_1 : decode cX2_forget 1 = .ok (.iconst 0, 1) := by decide +kernel
theorem dX2_forget_2 : decode cX2_forget 2 = .ok (.putfield 19, 3) := by decide +kernel
theorem dX2_forget_5 : decode cX2_forget 5 = .ok (.return_, 1) := by decide +kernel
set_option maxRecDepth 20000 in
theorem ggX2_begin_X1_stateCount : GoodIn wsX2_begin wsX1_stateCount := goodIn_r _ [12, 13, 14, 29, 30, 31, 32, 33, 34, 35, 36] (by decide +kernel) (by decide +kernel)
set_option maxRecDepth 20000 in
theorem gX2_begin_X1_stateCount : GoodIn wsX2_begin (wsV RX2 23 RX1 yX1_stateCount wsX1_stateCount) := goodIn_app (goodIn_of _ (by decide +kernel)) ggX2_begin_X1_stateCount
set_option maxRecDepth 20000 in
theorem ggX2_begin_X6_roomFor : GoodIn wsX2_begin wsX6_roomFor := goodIn_r _ [17, 18] (by decide +kernel) (by decide +kernel)
set_option maxRecDepth 20000 in
theorem gX2_begin_X6_roomFor_n41 : GoodIn wsX2_begin (wsX6_roomFor) := ggX2_begin_X6_roomFor
set_option maxRecDepth 20000 in
theorem ggX2_begin_X6_leaveAll : GoodIn wsX2_begin wsX6_leaveAll := goodIn_ca (goodIn_r _ [20] (by decide +kernel) (by decide +kernel)) (goodIn_sub (fun _ h => List.mem_cons_of_mem _ (List.mem_append_right _ h)) (by decide +kernel))
set_option maxRecDepth 20000 in
theorem gX2_begin_X6_leaveAll_n47 : GoodIn wsX2_begin (wsX6_leaveAll) := ggX2_begin_X6_leaveAll
theorem dX2_begin_0 : decode cX2_begin 0 = .ok (.aload_n 0, 1) := by decide +kernel
theorem dX2_begin_1 : decode cX2_begin 1 = .ok (.aload_n 1, 1) := by decide +kernel
theorem dX2_begin_2 : decode cX2_begin 2 = .ok (.invokevirtual 23, 3) := by decide +kernel
theorem dX2_begin_5 : decode cX2_begin 5 = .ok (.putfield 29, 3) := by decide +kernel
theorem dX2_begin_8 : decode cX2_begin 8 = .ok (.aload_n 0, 1) := by decide +kernel
theorem dX2_begin_9 : decode cX2_begin 9 = .ok (.aload_n 1, 1) := by decide +kernel
theorem dX2_begin_10 : decode cX2_begin 10 = .ok (.getfield 33, 3) := by decide +kernel
theorem dX2_begin_13 : decode cX2_begin 13 = .ok (.putfield 36, 3) := by decide +kernel
theorem dX2_begin_16 : decode cX2_begin 16 = .ok (.aload_n 0, 1) := by decide +kernel
theorem dX2_begin_17 : decode cX2_begin 17 = .ok (.aload_n 1, 1) := by decide +kernel
theorem dX2_begin_18 : decode cX2_begin 18 = .ok (.getfield 37, 3) := by decide +kernel
theorem dX2_begin_21 : decode cX2_begin 21 = .ok (.putfield 40, 3) := by decide +kernel
theorem dX2_begin_24 : decode cX2_begin 24 = .ok (.aload_n 0, 1) := by decide +kernel
theorem dX2_begin_25 : decode cX2_begin 25 = .ok (.aload_n 0, 1) := by decide +kernel
theorem dX2_begin_26 : decode cX2_begin 26 = .ok (.getfield 7, 3) := by decide +kernel
theorem dX2_begin_29 : decode cX2_begin 29 = .ok (.aload_n 0, 1) := by decide +kernel
theorem dX2_begin_30 : decode cX2_begin 30 = .ok (.getfield 29, 3) := by decide +kernel
theorem dX2_begin_33 : decode cX2_begin 33 = .ok (.invokestatic 41, 3) := by decide +kernel
theorem dX2_begin_36 : decode cX2_begin 36 = .ok (.putfield 7, 3) := by decide +kernel
theorem dX2_begin_39 : decode cX2_begin 39 = .ok (.aload_n 0, 1) := by decide +kernel
theorem dX2_begin_40 : decode cX2_begin 40 = .ok (.aload_n 0, 1) := by decide +kernel
theorem dX2_begin_41 : decode cX2_begin 41 = .ok (.getfield 13, 3) := by decide +kernel
theorem dX2_begin_44 : decode cX2_begin 44 = .ok (.aload_n 0, 1) := by decide +kernel
theorem dX2_begin_45 : decode cX2_begin 45 = .ok (.getfield 36, 3) := by decide +kernel
theorem dX2_begin_48 : decode cX2_begin 48 = .ok (.invokestatic 41, 3) := by decide +kernel
theorem dX2_begin_51 : decode cX2_begin 51 = .ok (.putfield 13, 3) := by decide +kernel
theorem dX2_begin_54 : decode cX2_begin 54 = .ok (.aload_n 0, 1) := by decide +kernel
theorem dX2_begin_55 : decode cX2_begin 55 = .ok (.aload_n 0, 1) := by decide +kernel
theorem dX2_begin_56 : decode cX2_begin 56 = .ok (.getfield 16, 3) := by decide +kernel
theorem dX2_begin_59 : decode cX2_begin 59 = .ok (.aload_n 0, 1) := by decide +kernel
theorem dX2_begin_60 : decode cX2_begin 60 = .ok (.getfield 40, 3) := by decide +kernel
theorem dX2_begin_63 : decode cX2_begin 63 = .ok (.invokestatic 41, 3) := by decide +kernel
theorem dX2_begin_66 : decode cX2_begin 66 = .ok (.putfield 16, 3) := by decide +kernel
theorem dX2_begin_69 : decode cX2_begin 69 = .ok (.aload_n 0, 1) := by decide +kernel
theorem dX2_begin_70 : decode cX2_begin 70 = .ok (.getfield 7, 3) := by decide +kernel
theorem dX2_begin_73 : decode cX2_begin 73 = .ok (.invokestatic 47, 3) := by decide +kernel
theorem dX2_begin_76 : decode cX2_begin 76 = .ok (.aload_n 0, 1) := by decide +kernel
theorem dX2_begin_77 : decode cX2_begin 77 = .ok (.aload_n 0, 1) := by decide +kernel
theorem dX2_begin_78 : decode cX2_begin 78 = .ok (.getfield 29, 3) := by decide +kernel
theorem dX2_begin_81 : decode cX2_begin 81 = .ok (.putfield 51, 3) := by decide +kernel
theorem dX2_begin_84 : decode cX2_begin 84 = .ok (.return_, 1) := by decide +kernel
set_option maxRecDepth 20000 in
theorem ggX2_learn_X1_read : GoodIn wsX2_learn wsX1_read := goodIn_ca (goodIn_r _ [9, 10, 11, 12, 13, 8, 14, 15, 16, 17, 18, 19, 20, 21, 22, 23, 24, 25, 26, 27, 54, 55, 56, 57, 58, 59, 60, 61, 62, 63] (by decide +kernel) (by decide +kernel)) (goodIn_sub (fun _ h => List.mem_cons_of_mem _ (List.mem_append_right _ h)) (by decide +kernel))
set_option maxRecDepth 20000 in
theorem gX2_learn_X1_read : GoodIn wsX2_learn (wsV RX2 54 RX1 yX1_read wsX1_read) := goodIn_app (goodIn_of _ (by decide +kernel)) ggX2_learn_X1_read
set_option maxRecDepth 20000 in
theorem ggX2_learn_X3_becomeImage : GoodIn wsX2_learn wsX3_becomeImage := goodIn_ca (goodIn_r _ [32, 33, 34, 62, 63] (by decide +kernel) (by decide +kernel)) (goodIn_sub (fun _ h => List.mem_cons_of_mem _ (List.mem_append_right _ h)) (by decide +kernel))
set_option maxRecDepth 20000 in
theorem gX2_learn_X3_becomeImage : GoodIn wsX2_learn (wsV RX2 58 RX3 yX3_becomeImage wsX3_becomeImage) := goodIn_app (goodIn_of _ (by decide +kernel)) ggX2_learn_X3_becomeImage
set_option maxRecDepth 20000 in
theorem ggX2_learn_X1_numberOf : GoodIn wsX2_learn wsX1_numberOf := goodIn_ca (goodIn_r _ [38, 15, 16, 23, 17, 39, 40, 41, 42, 43, 44, 45, 54, 55, 56, 57, 58, 59, 60, 61, 62, 63] (by decide +kernel) (by decide +kernel)) (goodIn_sub (fun _ h => List.mem_cons_of_mem _ (List.mem_append_right _ h)) (by decide +kernel))
set_option maxRecDepth 20000 in
theorem gX2_learn_X1_numberOf : GoodIn wsX2_learn (wsV RX2 64 RX1 yX1_numberOf wsX1_numberOf) := goodIn_app (goodIn_of _ (by decide +kernel)) ggX2_learn_X1_numberOf
theorem dX2_learn_0 : decode cX2_learn 0 = .ok (.iconst 0, 1) := by decide +kernel
theorem dX2_learn_1 : decode cX2_learn 1 = .ok (.istore 5, 2) := by decide +kernel
theorem dX2_learn_3 : decode cX2_learn 3 = .ok (.iload 5, 2) := by decide +kernel
theorem dX2_learn_5 : decode cX2_learn 5 = .ok (.aload_n 0, 1) := by decide +kernel
theorem dX2_learn_6 : decode cX2_learn 6 = .ok (.getfield 36, 3) := by decide +kernel
theorem dX2_learn_9 : decode cX2_learn 9 = .ok (.if_icmp .ge 46, 3) := by decide +kernel
theorem dX2_learn_12 : decode cX2_learn 12 = .ok (.aload_n 2, 1) := by decide +kernel
theorem dX2_learn_13 : decode cX2_learn 13 = .ok (.iload 5, 2) := by decide +kernel
theorem dX2_learn_15 : decode cX2_learn 15 = .ok (.aload_n 0, 1) := by decide +kernel
theorem dX2_learn_16 : decode cX2_learn 16 = .ok (.getfield 40, 3) := by decide +kernel
theorem dX2_learn_19 : decode cX2_learn 19 = .ok (.imul, 1) := by decide +kernel
theorem dX2_learn_20 : decode cX2_learn 20 = .ok (.aload_n 3, 1) := by decide +kernel
theorem dX2_learn_21 : decode cX2_learn 21 = .ok (.invokevirtual 54, 3) := by decide +kernel
theorem dX2_learn_24 : decode cX2_learn 24 = .ok (.aload 4, 2) := by decide +kernel
theorem dX2_learn_26 : decode cX2_learn 26 = .ok (.aload_n 3, 1) := by decide +kernel
theorem dX2_learn_27 : decode cX2_learn 27 = .ok (.aload_n 1, 1) := by decide +kernel
theorem dX2_learn_28 : decode cX2_learn 28 = .ok (.invokevirtual 58, 3) := by decide +kernel
theorem dX2_learn_31 : decode cX2_learn 31 = .ok (.aload_n 0, 1) := by decide +kernel
theorem dX2_learn_32 : decode cX2_learn 32 = .ok (.getfield 13, 3) := by decide +kernel
theorem dX2_learn_35 : decode cX2_learn 35 = .ok (.iload 5, 2) := by decide +kernel
theorem dX2_learn_37 : decode cX2_learn 37 = .ok (.aload_n 2, 1) := by decide +kernel
theorem dX2_learn_38 : decode cX2_learn 38 = .ok (.aload 4, 2) := by decide +kernel
theorem dX2_learn_40 : decode cX2_learn 40 = .ok (.invokevirtual 64, 3) := by decide +kernel
theorem dX2_learn_43 : decode cX2_learn 43 = .ok (.aload_n 0, 1) := by decide +kernel
theorem dX2_learn_44 : decode cX2_learn 44 = .ok (.getfield 40, 3) := by decide +kernel
theorem dX2_learn_47 : decode cX2_learn 47 = .ok (.idiv, 1) := by decide +kernel
theorem dX2_learn_48 : decode cX2_learn 48 = .ok (.iastore, 1) := by decide +kernel
theorem dX2_learn_49 : decode cX2_learn 49 = .ok (.iinc 5 1, 3) := by decide +kernel
theorem dX2_learn_52 : decode cX2_learn 52 = .ok (.goto (-49), 3) := by decide +kernel
theorem dX2_learn_55 : decode cX2_learn 55 = .ok (.iconst 0, 1) := by decide +kernel
theorem dX2_learn_56 : decode cX2_learn 56 = .ok (.istore 5, 2) := by decide +kernel
theorem dX2_learn_58 : decode cX2_learn 58 = .ok (.iload 5, 2) := by decide +kernel
theorem dX2_learn_60 : decode cX2_learn 60 = .ok (.aload_n 0, 1) := by decide +kernel
theorem dX2_learn_61 : decode cX2_learn 61 = .ok (.getfield 40, 3) := by decide +kernel
theorem dX2_learn_64 : decode cX2_learn 64 = .ok (.if_icmp .ge 41, 3) := by decide +kernel
theorem dX2_learn_67 : decode cX2_learn 67 = .ok (.aload_n 2, 1) := by decide +kernel
theorem dX2_learn_68 : decode cX2_learn 68 = .ok (.iload 5, 2) := by decide +kernel
theorem dX2_learn_70 : decode cX2_learn 70 = .ok (.aload_n 3, 1) := by decide +kernel
theorem dX2_learn_71 : decode cX2_learn 71 = .ok (.invokevirtual 54, 3) := by decide +kernel
theorem dX2_learn_74 : decode cX2_learn 74 = .ok (.aload 4, 2) := by decide +kernel
theorem dX2_learn_76 : decode cX2_learn 76 = .ok (.aload_n 3, 1) := by decide +kernel
theorem dX2_learn_77 : decode cX2_learn 77 = .ok (.aload_n 1, 1) := by decide +kernel
theorem dX2_learn_78 : decode cX2_learn 78 = .ok (.invokevirtual 58, 3) := by decide +kernel
theorem dX2_learn_81 : decode cX2_learn 81 = .ok (.aload_n 0, 1) := by decide +kernel
theorem dX2_learn_82 : decode cX2_learn 82 = .ok (.getfield 16, 3) := by decide +kernel
theorem dX2_learn_85 : decode cX2_learn 85 = .ok (.iload 5, 2) := by decide +kernel
theorem dX2_learn_87 : decode cX2_learn 87 = .ok (.aload_n 2, 1) := by decide +kernel
theorem dX2_learn_88 : decode cX2_learn 88 = .ok (.aload 4, 2) := by decide +kernel
theorem dX2_learn_90 : decode cX2_learn 90 = .ok (.invokevirtual 64, 3) := by decide +kernel
theorem dX2_learn_93 : decode cX2_learn 93 = .ok (.aload_n 0, 1) := by decide +kernel
theorem dX2_learn_94 : decode cX2_learn 94 = .ok (.getfield 40, 3) := by decide +kernel
theorem dX2_learn_97 : decode cX2_learn 97 = .ok (.irem, 1) := by decide +kernel
theorem dX2_learn_98 : decode cX2_learn 98 = .ok (.iastore, 1) := by decide +kernel
theorem dX2_learn_99 : decode cX2_learn 99 = .ok (.iinc 5 1, 3) := by decide +kernel
theorem dX2_learn_102 : decode cX2_learn 102 = .ok (.goto (-44), 3) := by decide +kernel
theorem dX2_learn_105 : decode cX2_learn 105 = .ok (.return_, 1) := by decide +kernel
set_option maxRecDepth 20000 in
theorem ggX2_joinImages_X2_join : GoodIn wsX2_joinImages wsX2_join := goodIn_ca (goodIn_r _ [9, 10, 11, 12, 13, 14, 15, 16, 17, 18, 19, 20, 21, 8, 22, 23, 24, 25, 26, 27, 28, 29, 30, 31] (by decide +kernel) (by decide +kernel)) (goodIn_sub (fun _ h => List.mem_cons_of_mem _ (List.mem_append_right _ h)) (by decide +kernel))
set_option maxRecDepth 20000 in
theorem gX2_joinImages_X2_join : GoodIn wsX2_joinImages (wsV RX2 68 RX2 yX2_join wsX2_join) := goodIn_app (goodIn_of _ (by decide +kernel)) ggX2_joinImages_X2_join
theorem dX2_joinImages_0 : decode cX2_joinImages 0 = .ok (.iconst 0, 1) := by decide +kernel
theorem dX2_joinImages_1 : decode cX2_joinImages 1 = .ok (.istore_n 1, 1) := by decide +kernel
theorem dX2_joinImages_2 : decode cX2_joinImages 2 = .ok (.iload_n 1, 1) := by decide +kernel
theorem dX2_joinImages_3 : decode cX2_joinImages 3 = .ok (.aload_n 0, 1) := by decide +kernel
theorem dX2_joinImages_4 : decode cX2_joinImages 4 = .ok (.getfield 36, 3) := by decide +kernel
theorem dX2_joinImages_7 : decode cX2_joinImages 7 = .ok (.if_icmp .ge 55, 3) := by decide +kernel
theorem dX2_joinImages_10 : decode cX2_joinImages 10 = .ok (.iconst 0, 1) := by decide +kernel
theorem dX2_joinImages_11 : decode cX2_joinImages 11 = .ok (.istore_n 2, 1) := by decide +kernel
theorem dX2_joinImages_12 : decode cX2_joinImages 12 = .ok (.iload_n 2, 1) := by decide +kernel
theorem dX2_joinImages_13 : decode cX2_joinImages 13 = .ok (.aload_n 0, 1) := by decide +kernel
theorem dX2_joinImages_14 : decode cX2_joinImages 14 = .ok (.getfield 40, 3) := by decide +kernel
theorem dX2_joinImages_17 : decode cX2_joinImages 17 = .ok (.if_icmp .ge 39, 3) := by decide +kernel
theorem dX2_joinImages_20 : decode cX2_joinImages 20 = .ok (.aload_n 0, 1) := by decide +kernel
theorem dX2_joinImages_21 : decode cX2_joinImages 21 = .ok (.iload_n 1, 1) := by decide +kernel
theorem dX2_joinImages_22 : decode cX2_joinImages 22 = .ok (.aload_n 0, 1) := by decide +kernel
theorem dX2_joinImages_23 : decode cX2_joinImages 23 = .ok (.getfield 40, 3) := by decide +kernel
theorem dX2_joinImages_26 : decode cX2_joinImages 26 = .ok (.imul, 1) := by decide +kernel
theorem dX2_joinImages_27 : decode cX2_joinImages 27 = .ok (.iload_n 2, 1) := by decide +kernel
theorem dX2_joinImages_28 : decode cX2_joinImages 28 = .ok (.iadd, 1) := by decide +kernel
theorem dX2_joinImages_29 : decode cX2_joinImages 29 = .ok (.aload_n 0, 1) := by decide +kernel
theorem dX2_joinImages_30 : decode cX2_joinImages 30 = .ok (.getfield 13, 3) := by decide +kernel
theorem dX2_joinImages_33 : decode cX2_joinImages 33 = .ok (.iload_n 1, 1) := by decide +kernel
theorem dX2_joinImages_34 : decode cX2_joinImages 34 = .ok (.iaload, 1) := by decide +kernel
theorem dX2_joinImages_35 : decode cX2_joinImages 35 = .ok (.aload_n 0, 1) := by decide +kernel
theorem dX2_joinImages_36 : decode cX2_joinImages 36 = .ok (.getfield 40, 3) := by decide +kernel
theorem dX2_joinImages_39 : decode cX2_joinImages 39 = .ok (.imul, 1) := by decide +kernel
theorem dX2_joinImages_40 : decode cX2_joinImages 40 = .ok (.aload_n 0, 1) := by decide +kernel
theorem dX2_joinImages_41 : decode cX2_joinImages 41 = .ok (.getfield 16, 3) := by decide +kernel
theorem dX2_joinImages_44 : decode cX2_joinImages 44 = .ok (.iload_n 2, 1) := by decide +kernel
theorem dX2_joinImages_45 : decode cX2_joinImages 45 = .ok (.iaload, 1) := by decide +kernel
theorem dX2_joinImages_46 : decode cX2_joinImages 46 = .ok (.iadd, 1) := by decide +kernel
theorem dX2_joinImages_47 : decode cX2_joinImages 47 = .ok (.invokevirtual 68, 3) := by decide +kernel
theorem dX2_joinImages_50 : decode cX2_joinImages 50 = .ok (.iinc 2 1, 3) := by decide +kernel
theorem dX2_joinImages_53 : decode cX2_joinImages 53 = .ok (.goto (-41), 3) := by decide +kernel
theorem dX2_joinImages_56 : decode cX2_joinImages 56 = .ok (.iinc 1 1, 3) := by decide +kernel
theorem dX2_joinImages_59 : decode cX2_joinImages 59 = .ok (.goto (-57), 3) := by decide +kernel
theorem dX2_joinImages_62 : decode cX2_joinImages 62 = .ok (.return_, 1) := by decide +kernel
set_option maxRecDepth 20000 in
theorem ggX2_join_X2_root : GoodIn wsX2_join wsX2_root := goodIn_ca (goodIn_r _ [14, 15, 1, 16, 17, 18, 19, 20, 21, 22, 23] (by decide +kernel) (by decide +kernel)) (goodIn_sub (fun _ h => List.mem_cons_of_mem _ (List.mem_append_right _ h)) (by decide +kernel))
set_option maxRecDepth 20000 in
theorem gX2_join_X2_root : GoodIn wsX2_join (wsV RX2 72 RX2 yX2_root wsX2_root) := goodIn_app (goodIn_of _ (by decide +kernel)) ggX2_join_X2_root
theorem dX2_join_0 : decode cX2_join 0 = .ok (.aload_n 0, 1) := by decide +kernel
theorem dX2_join_1 : decode cX2_join 1 = .ok (.iload_n 1, 1) := by decide +kernel
theorem dX2_join_2 : decode cX2_join 2 = .ok (.invokevirtual 72, 3) := by decide +kernel
theorem dX2_join_5 : decode cX2_join 5 = .ok (.istore_n 3, 1) := by decide +kernel
theorem dX2_join_6 : decode cX2_join 6 = .ok (.aload_n 0, 1) := by decide +kernel
theorem dX2_join_7 : decode cX2_join 7 = .ok (.iload_n 2, 1) := by decide +kernel
theorem dX2_join_8 : decode cX2_join 8 = .ok (.invokevirtual 72, 3) := by decide +kernel
theorem dX2_join_11 : decode cX2_join 11 = .ok (.istore 4, 2) := by decide +kernel
theorem dX2_join_13 : decode cX2_join 13 = .ok (.iload_n 3, 1) := by decide +kernel
theorem dX2_join_14 : decode cX2_join 14 = .ok (.iload 4, 2) := by decide +kernel
theorem dX2_join_16 : decode cX2_join 16 = .ok (.if_icmp .eq 30, 3) := by decide +kernel
theorem dX2_join_19 : decode cX2_join 19 = .ok (.aload_n 0, 1) := by decide +kernel
theorem dX2_join_20 : decode cX2_join 20 = .ok (.getfield 7, 3) := by decide +kernel
theorem dX2_join_23 : decode cX2_join 23 = .ok (.iload_n 3, 1) := by decide +kernel
theorem dX2_join_24 : decode cX2_join 24 = .ok (.iload 4, 2) := by decide +kernel
theorem dX2_join_26 : decode cX2_join 26 = .ok (.invokestatic 76, 3) := by decide +kernel
theorem dX2_join_29 : decode cX2_join 29 = .ok (.iload_n 3, 1) := by decide +kernel
theorem dX2_join_30 : decode cX2_join 30 = .ok (.iload 4, 2) := by decide +kernel
theorem dX2_join_32 : decode cX2_join 32 = .ok (.invokestatic 82, 3) := by decide +kernel
theorem dX2_join_35 : decode cX2_join 35 = .ok (.iastore, 1) := by decide +kernel
theorem dX2_join_36 : decode cX2_join 36 = .ok (.aload_n 0, 1) := by decide +kernel
theorem dX2_join_37 : decode cX2_join 37 = .ok (.dup, 1) := by decide +kernel
theorem dX2_join_38 : decode cX2_join 38 = .ok (.getfield 51, 3) := by decide +kernel
theorem dX2_join_41 : decode cX2_join 41 = .ok (.iconst 1, 1) := by decide +kernel
theorem dX2_join_42 : decode cX2_join 42 = .ok (.isub, 1) := by decide +kernel
theorem dX2_join_43 : decode cX2_join 43 = .ok (.putfield 51, 3) := by decide +kernel
theorem dX2_join_46 : decode cX2_join 46 = .ok (.return_, 1) := by decide +kernel
theorem dX2_root_0 : decode cX2_root 0 = .ok (.iload_n 1, 1) := by decide +kernel
theorem dX2_root_1 : decode cX2_root 1 = .ok (.istore_n 2, 1) := by decide +kernel
theorem dX2_root_2 : decode cX2_root 2 = .ok (.iconst 0, 1) := by decide +kernel
theorem dX2_root_3 : decode cX2_root 3 = .ok (.istore_n 3, 1) := by decide +kernel
theorem dX2_root_4 : decode cX2_root 4 = .ok (.iload_n 3, 1) := by decide +kernel
theorem dX2_root_5 : decode cX2_root 5 = .ok (.aload_n 0, 1) := by decide +kernel
theorem dX2_root_6 : decode cX2_root 6 = .ok (.getfield 29, 3) := by decide +kernel
theorem dX2_root_9 : decode cX2_root 9 = .ok (.if_icmp .ge 43, 3) := by decide +kernel
theorem dX2_root_12 : decode cX2_root 12 = .ok (.aload_n 0, 1) := by decide +kernel
theorem dX2_root_13 : decode cX2_root 13 = .ok (.getfield 7, 3) := by decide +kernel
theorem dX2_root_16 : decode cX2_root 16 = .ok (.iload_n 2, 1) := by decide +kernel
theorem dX2_root_17 : decode cX2_root 17 = .ok (.iaload, 1) := by decide +kernel
theorem dX2_root_18 : decode cX2_root 18 = .ok (.iload_n 2, 1) := by decide +kernel
theorem dX2_root_19 : decode cX2_root 19 = .ok (.if_icmp .eq 33, 3) := by decide +kernel
theorem dX2_root_22 : decode cX2_root 22 = .ok (.aload_n 0, 1) := by decide +kernel
theorem dX2_root_23 : decode cX2_root 23 = .ok (.getfield 7, 3) := by decide +kernel
theorem dX2_root_26 : decode cX2_root 26 = .ok (.iload_n 2, 1) := by decide +kernel
theorem dX2_root_27 : decode cX2_root 27 = .ok (.aload_n 0, 1) := by decide +kernel
theorem dX2_root_28 : decode cX2_root 28 = .ok (.getfield 7, 3) := by decide +kernel
theorem dX2_root_31 : decode cX2_root 31 = .ok (.aload_n 0, 1) := by decide +kernel
theorem dX2_root_32 : decode cX2_root 32 = .ok (.getfield 7, 3) := by decide +kernel
theorem dX2_root_35 : decode cX2_root 35 = .ok (.iload_n 2, 1) := by decide +kernel
theorem dX2_root_36 : decode cX2_root 36 = .ok (.iaload, 1) := by decide +kernel
theorem dX2_root_37 : decode cX2_root 37 = .ok (.iaload, 1) := by decide +kernel
theorem dX2_root_38 : decode cX2_root 38 = .ok (.iastore, 1) := by decide +kernel
theorem dX2_root_39 : decode cX2_root 39 = .ok (.aload_n 0, 1) := by decide +kernel
theorem dX2_root_40 : decode cX2_root 40 = .ok (.getfield 7, 3) := by decide +kernel
theorem dX2_root_43 : decode cX2_root 43 = .ok (.iload_n 2, 1) := by decide +kernel
theorem dX2_root_44 : decode cX2_root 44 = .ok (.iaload, 1) := by decide +kernel
theorem dX2_root_45 : decode cX2_root 45 = .ok (.istore_n 2, 1) := by decide +kernel
theorem dX2_root_46 : decode cX2_root 46 = .ok (.iinc 3 1, 3) := by decide +kernel
theorem dX2_root_49 : decode cX2_root 49 = .ok (.goto (-45), 3) := by decide +kernel
theorem dX2_root_52 : decode cX2_root 52 = .ok (.iload_n 2, 1) := by decide +kernel
theorem dX2_root_53 : decode cX2_root 53 = .ok (.ireturn, 1) := by decide +kernel
set_option maxRecDepth 20000 in
theorem ggX3_init_X6_rowThatLeavesAll : GoodIn wsX3_init wsX6_rowThatLeavesAll := goodIn_ca (goodIn_r _ [9, 5, 10, 11, 8, 12] (by decide +kernel) (by decide +kernel)) (goodIn_sub (fun _ h => List.mem_cons_of_mem _ (List.mem_append_right _ h)) (by decide +kernel))
set_option maxRecDepth 20000 in
theorem gX3_init_X6_rowThatLeavesAll_n7 : GoodIn wsX3_init (wsX6_rowThatLeavesAll) := ggX3_init_X6_rowThatLeavesAll
theorem dX3_init_0 : decode cX3_init 0 = .ok (.aload_n 0, 1) := by decide +kernel
theorem dX3_init_1 : decode cX3_init 1 = .ok (.invokespecial 1, 3) := by decide +kernel
theorem dX3_init_4 : decode cX3_init 4 = .ok (.aload_n 0, 1) := by decide +kernel
theorem dX3_init_5 : decode cX3_init 5 = .ok (.iload_n 1, 1) := by decide +kernel
theorem dX3_init_6 : decode cX3_init 6 = .ok (.invokestatic 7, 3) := by decide +kernel
theorem dX3_init_9 : decode cX3_init 9 = .ok (.putfield 13, 3) := by decide +kernel
theorem dX3_init_12 : decode cX3_init 12 = .ok (.aload_n 0, 1) := by decide +kernel
theorem dX3_init_13 : decode cX3_init 13 = .ok (.iload_n 1, 1) := by decide +kernel
theorem dX3_init_14 : decode cX3_init 14 = .ok (.newarray .int, 2) := by decide +kernel
theorem dX3_init_16 : decode cX3_init 16 = .ok (.putfield 19, 3) := by decide +kernel
theorem dX3_init_19 : decode cX3_init 19 = .ok (.return_, 1) := by decide +kernel
set_option maxRecDepth 20000 in
theorem ggX3_goHome_X6_leaveAll : GoodIn wsX3_goHome wsX6_leaveAll := goodIn_ca (goodIn_r _ [5] (by decide +kernel) (by decide +kernel)) (goodIn_sub (fun _ h => List.mem_cons_of_mem _ (List.mem_append_right _ h)) (by decide +kernel))
set_option maxRecDepth 20000 in
theorem gX3_goHome_X6_leaveAll_n22 : GoodIn wsX3_goHome (wsX6_leaveAll) := ggX3_goHome_X6_leaveAll
set_option maxRecDepth 20000 in
theorem ggX3_goHome_J7_fill_53178 : GoodIn wsX3_goHome wsJ7_fill_53178 := goodIn_r _ [9] (by decide +kernel) (by decide +kernel)
set_option maxRecDepth 20000 in
theorem gX3_goHome_J7_fill_53178 : GoodIn wsX3_goHome (va_wsS RX3 26 yJ7_fill_53178 wsJ7_fill_53178) := goodIn_app (goodIn_of _ (by decide +kernel)) ggX3_goHome_J7_fill_53178
theorem dX3_goHome_0 : decode cX3_goHome 0 = .ok (.aload_n 0, 1) := by decide +kernel
theorem dX3_goHome_1 : decode cX3_goHome 1 = .ok (.getfield 13, 3) := by decide +kernel
theorem dX3_goHome_4 : decode cX3_goHome 4 = .ok (.invokestatic 22, 3) := by decide +kernel
theorem dX3_goHome_7 : decode cX3_goHome 7 = .ok (.aload_n 0, 1) := by decide +kernel
theorem dX3_goHome_8 : decode cX3_goHome 8 = .ok (.getfield 19, 3) := by decide +kernel
theorem dX3_goHome_11 : decode cX3_goHome 11 = .ok (.iconst 0, 1) := by decide +kernel
theorem dX3_goHome_12 : decode cX3_goHome 12 = .ok (.invokestatic 26, 3) := by decide +kernel
theorem dX3_goHome_15 : decode cX3_goHome 15 = .ok (.return_, 1) := by decide +kernel
theorem dX3_isHome_0 : decode cX3_isHome 0 = .ok (.iconst 0, 1) := by decide +kernel
theorem dX3_isHome_1 : decode cX3_isHome 1 = .ok (.istore_n 1, 1) := by decide +kernel
theorem dX3_isHome_2 : decode cX3_isHome 2 = .ok (.iload_n 1, 1) := by decide +kernel
theorem dX3_isHome_3 : decode cX3_isHome 3 = .ok (.aload_n 0, 1) := by decide +kernel
theorem dX3_isHome_4 : decode cX3_isHome 4 = .ok (.getfield 13, 3) := by decide +kernel
theorem dX3_isHome_7 : decode cX3_isHome 7 = .ok (.arraylength, 1) := by decide +kernel
theorem dX3_isHome_8 : decode cX3_isHome 8 = .ok (.if_icmp .ge 30, 3) := by decide +kernel
theorem dX3_isHome_11 : decode cX3_isHome 11 = .ok (.aload_n 0, 1) := by decide +kernel
theorem dX3_isHome_12 : decode cX3_isHome 12 = .ok (.getfield 13, 3) := by decide +kernel
theorem dX3_isHome_15 : decode cX3_isHome 15 = .ok (.iload_n 1, 1) := by decide +kernel
theorem dX3_isHome_16 : decode cX3_isHome 16 = .ok (.iaload, 1) := by decide +kernel
theorem dX3_isHome_17 : decode cX3_isHome 17 = .ok (.iload_n 1, 1) := by decide +kernel
theorem dX3_isHome_18 : decode cX3_isHome 18 = .ok (.if_icmp .ne 12, 3) := by decide +kernel
theorem dX3_isHome_21 : decode cX3_isHome 21 = .ok (.aload_n 0, 1) := by decide +kernel
theorem dX3_isHome_22 : decode cX3_isHome 22 = .ok (.getfield 19, 3) := by decide +kernel
theorem dX3_isHome_25 : decode cX3_isHome 25 = .ok (.iload_n 1, 1) := by decide +kernel
theorem dX3_isHome_26 : decode cX3_isHome 26 = .ok (.iaload, 1) := by decide +kernel
theorem dX3_isHome_27 : decode cX3_isHome 27 = .ok (.ifCond .eq 5, 3) := by decide +kernel
theorem dX3_isHome_30 : decode cX3_isHome 30 = .ok (.iconst 0, 1) := by decide +kernel
theorem dX3_isHome_31 : decode cX3_isHome 31 = .ok (.ireturn, 1) := by decide +kernel
theorem dX3_isHome_32 : decode cX3_isHome 32 = .ok (.iinc 1 1, 3) := by decide +kernel
theorem dX3_isHome_35 : decode cX3_isHome 35 = .ok (.goto (-33), 3) := by decide +kernel
theorem dX3_isHome_38 : decode cX3_isHome 38 = .ok (.iconst 1, 1) := by decide +kernel
theorem dX3_isHome_39 : decode cX3_isHome 39 = .ok (.ireturn, 1) := by decide +kernel
theorem dX3_copy_0 : decode cX3_copy 0 = .ok (.iconst 0, 1) := by decide +kernel
theorem dX3_copy_1 : decode cX3_copy 1 = .ok (.istore_n 2, 1) := by decide +kernel
theorem dX3_copy_2 : decode cX3_copy 2 = .ok (.iload_n 2, 1) := by decide +kernel
theorem dX3_copy_3 : decode cX3_copy 3 = .ok (.aload_n 0, 1) := by decide +kernel
theorem dX3_copy_4 : decode cX3_copy 4 = .ok (.getfield 13, 3) := by decide +kernel
theorem dX3_copy_7 : decode cX3_copy 7 = .ok (.arraylength, 1) := by decide +kernel
theorem dX3_copy_8 : decode cX3_copy 8 = .ok (.if_icmp .ge 33, 3) := by decide +kernel
theorem dX3_copy_11 : decode cX3_copy 11 = .ok (.aload_n 0, 1) := by decide +kernel
theorem dX3_copy_12 : decode cX3_copy 12 = .ok (.getfield 13, 3) := by decide +kernel
theorem dX3_copy_15 : decode cX3_copy 15 = .ok (.iload_n 2, 1) := by decide +kernel
theorem dX3_copy_16 : decode cX3_copy 16 = .ok (.aload_n 1, 1) := by decide +kernel
theorem dX3_copy_17 : decode cX3_copy 17 = .ok (.getfield 13, 3) := by decide +kernel
theorem dX3_copy_20 : decode cX3_copy 20 = .ok (.iload_n 2, 1) := by decide +kernel
theorem dX3_copy_21 : decode cX3_copy 21 = .ok (.iaload, 1) := by decide +kernel
theorem dX3_copy_22 : decode cX3_copy 22 = .ok (.iastore, 1) := by decide +kernel
theorem dX3_copy_23 : decode cX3_copy 23 = .ok (.aload_n 0, 1) := by decide +kernel
theorem dX3_copy_24 : decode cX3_copy 24 = .ok (.getfield 19, 3) := by decide +kernel
theorem dX3_copy_27 : decode cX3_copy 27 = .ok (.iload_n 2, 1) := by decide +kernel
theorem dX3_copy_28 : decode cX3_copy 28 = .ok (.aload_n 1, 1) := by decide +kernel
theorem dX3_copy_29 : decode cX3_copy 29 = .ok (.getfield 19, 3) := by decide +kernel
theorem dX3_copy_32 : decode cX3_copy 32 = .ok (.iload_n 2, 1) := by decide +kernel
theorem dX3_copy_33 : decode cX3_copy 33 = .ok (.iaload, 1) := by decide +kernel
theorem dX3_copy_34 : decode cX3_copy 34 = .ok (.iastore, 1) := by decide +kernel
theorem dX3_copy_35 : decode cX3_copy 35 = .ok (.iinc 2 1, 3) := by decide +kernel
theorem dX3_copy_38 : decode cX3_copy 38 = .ok (.goto (-36), 3) := by decide +kernel
theorem dX3_copy_41 : decode cX3_copy 41 = .ok (.return_, 1) := by decide +kernel
theorem dX3_follow_0 : decode cX3_follow 0 = .ok (.iconst 0, 1) := by decide +kernel
theorem dX3_follow_1 : decode cX3_follow 1 = .ok (.istore_n 2, 1) := by decide +kernel
theorem dX3_follow_2 : decode cX3_follow 2 = .ok (.iload_n 2, 1) := by decide +kernel
theorem dX3_follow_3 : decode cX3_follow 3 = .ok (.aload_n 0, 1) := by decide +kernel
theorem dX3_follow_4 : decode cX3_follow 4 = .ok (.getfield 13, 3) := by decide +kernel
theorem dX3_follow_7 : decode cX3_follow 7 = .ok (.arraylength, 1) := by decide +kernel
theorem dX3_follow_8 : decode cX3_follow 8 = .ok (.if_icmp .ge 52, 3) := by decide +kernel
theorem dX3_follow_11 : decode cX3_follow 11 = .ok (.aload_n 0, 1) := by decide +kernel
theorem dX3_follow_12 : decode cX3_follow 12 = .ok (.getfield 13, 3) := by decide +kernel
theorem dX3_follow_15 : decode cX3_follow 15 = .ok (.iload_n 2, 1) := by decide +kernel
theorem dX3_follow_16 : decode cX3_follow 16 = .ok (.iaload, 1) := by decide +kernel
theorem dX3_follow_17 : decode cX3_follow 17 = .ok (.istore_n 3, 1) := by decide +kernel
theorem dX3_follow_18 : decode cX3_follow 18 = .ok (.aload_n 0, 1) := by decide +kernel
theorem dX3_follow_19 : decode cX3_follow 19 = .ok (.getfield 19, 3) := by decide +kernel
theorem dX3_follow_22 : decode cX3_follow 22 = .ok (.iload_n 2, 1) := by decide +kernel
theorem dX3_follow_23 : decode cX3_follow 23 = .ok (.aload_n 0, 1) := by decide +kernel
theorem dX3_follow_24 : decode cX3_follow 24 = .ok (.getfield 19, 3) := by decide +kernel
theorem dX3_follow_27 : decode cX3_follow 27 = .ok (.iload_n 2, 1) := by decide +kernel
theorem dX3_follow_28 : decode cX3_follow 28 = .ok (.iaload, 1) := by decide +kernel
theorem dX3_follow_29 : decode cX3_follow 29 = .ok (.aload_n 1, 1) := by decide +kernel
theorem dX3_follow_30 : decode cX3_follow 30 = .ok (.getfield 32, 3) := by decide +kernel
theorem dX3_follow_33 : decode cX3_follow 33 = .ok (.iload_n 3, 1) := by decide +kernel
theorem dX3_follow_34 : decode cX3_follow 34 = .ok (.iaload, 1) := by decide +kernel
theorem dX3_follow_35 : decode cX3_follow 35 = .ok (.iadd, 1) := by decide +kernel
theorem dX3_follow_36 : decode cX3_follow 36 = .ok (.aload_n 1, 1) := by decide +kernel
theorem dX3_follow_37 : decode cX3_follow 37 = .ok (.getfield 37, 3) := by decide +kernel
theorem dX3_follow_40 : decode cX3_follow 40 = .ok (.irem, 1) := by decide +kernel
theorem dX3_follow_41 : decode cX3_follow 41 = .ok (.iastore, 1) := by decide +kernel
theorem dX3_follow_42 : decode cX3_follow 42 = .ok (.aload_n 0, 1) := by decide +kernel
theorem dX3_follow_43 : decode cX3_follow 43 = .ok (.getfield 13, 3) := by decide +kernel
theorem dX3_follow_46 : decode cX3_follow 46 = .ok (.iload_n 2, 1) := by decide +kernel
theorem dX3_follow_47 : decode cX3_follow 47 = .ok (.aload_n 1, 1) := by decide +kernel
theorem dX3_follow_48 : decode cX3_follow 48 = .ok (.getfield 41, 3) := by decide +kernel
theorem dX3_follow_51 : decode cX3_follow 51 = .ok (.iload_n 3, 1) := by decide +kernel
theorem dX3_follow_52 : decode cX3_follow 52 = .ok (.iaload, 1) := by decide +kernel
theorem dX3_follow_53 : decode cX3_follow 53 = .ok (.iastore, 1) := by decide +kernel
theorem dX3_follow_54 : decode cX3_follow 54 = .ok (.iinc 2 1, 3) := by decide +kernel
theorem dX3_follow_57 : decode cX3_follow 57 = .ok (.goto (-55), 3) := by decide +kernel
theorem dX3_follow_60 : decode cX3_follow 60 = .ok (.return_, 1) := by decide +kernel
theorem dX3_becomeImage_0 : decode cX3_becomeImage 0 = .ok (.iconst 0, 1) := by decide +kernel
theorem dX3_becomeImage_1 : decode cX3_becomeImage 1 = .ok (.istore_n 3, 1) := by decide +kernel
theorem dX3_becomeImage_2 : decode cX3_becomeImage 2 = .ok (.iload_n 3, 1) := by decide +kernel
theorem dX3_becomeImage_3 : decode cX3_becomeImage 3 = .ok (.aload_n 0, 1) := by decide +kernel
theorem dX3_becomeImage_4 : decode cX3_becomeImage 4 = .ok (.getfield 13, 3) := by decide +kernel
theorem dX3_becomeImage_7 : decode cX3_becomeImage 7 = .ok (.arraylength, 1) := by decide +kernel
theorem dX3_becomeImage_8 : decode cX3_becomeImage 8 = .ok (.if_icmp .ge 39, 3) := by decide +kernel
theorem dX3_becomeImage_11 : decode cX3_becomeImage 11 = .ok (.aload_n 0, 1) := by decide +kernel
theorem dX3_becomeImage_12 : decode cX3_becomeImage 12 = .ok (.getfield 13, 3) := by decide +kernel
theorem dX3_becomeImage_15 : decode cX3_becomeImage 15 = .ok (.aload_n 2, 1) := by decide +kernel
theorem dX3_becomeImage_16 : decode cX3_becomeImage 16 = .ok (.iload_n 3, 1) := by decide +kernel
theorem dX3_becomeImage_17 : decode cX3_becomeImage 17 = .ok (.iaload, 1) := by decide +kernel
theorem dX3_becomeImage_18 : decode cX3_becomeImage 18 = .ok (.aload_n 2, 1) := by decide +kernel
theorem dX3_becomeImage_19 : decode cX3_becomeImage 19 = .ok (.aload_n 1, 1) := by decide +kernel
theorem dX3_becomeImage_20 : decode cX3_becomeImage 20 = .ok (.getfield 13, 3) := by decide +kernel
theorem dX3_becomeImage_23 : decode cX3_becomeImage 23 = .ok (.iload_n 3, 1) := by decide +kernel
theorem dX3_becomeImage_24 : decode cX3_becomeImage 24 = .ok (.iaload, 1) := by decide +kernel
theorem dX3_becomeImage_25 : decode cX3_becomeImage 25 = .ok (.iaload, 1) := by decide +kernel
theorem dX3_becomeImage_26 : decode cX3_becomeImage 26 = .ok (.iastore, 1) := by decide +kernel
theorem dX3_becomeImage_27 : decode cX3_becomeImage 27 = .ok (.aload_n 0, 1) := by decide +kernel
theorem dX3_becomeImage_28 : decode cX3_becomeImage 28 = .ok (.getfield 19, 3) := by decide +kernel
theorem dX3_becomeImage_31 : decode cX3_becomeImage 31 = .ok (.aload_n 2, 1) := by decide +kernel
theorem dX3_becomeImage_32 : decode cX3_becomeImage 32 = .ok (.iload_n 3, 1) := by decide +kernel
theorem dX3_becomeImage_33 : decode cX3_becomeImage 33 = .ok (.iaload, 1) := by decide +kernel
theorem dX3_becomeImage_34 : decode cX3_becomeImage 34 = .ok (.aload_n 1, 1) := by decide +kernel
theorem dX3_becomeImage_35 : decode cX3_becomeImage 35 = .ok (.getfield 19, 3) := by decide +kernel
theorem dX3_becomeImage_38 : decode cX3_becomeImage 38 = .ok (.iload_n 3, 1) := by decide +kernel
theorem dX3_becomeImage_39 : decode cX3_becomeImage 39 = .ok (.iaload, 1) := by decide +kernel
theorem dX3_becomeImage_40 : decode cX3_becomeImage 40 = .ok (.iastore, 1) := by decide +kernel
theorem dX3_becomeImage_41 : decode cX3_becomeImage 41 = .ok (.iinc 3 1, 3) := by decide +kernel
theorem dX3_becomeImage_44 : decode cX3_becomeImage 44 = .ok (.goto (-42), 3) := by decide +kernel
theorem dX3_becomeImage_47 : decode cX3_becomeImage 47 = .ok (.return_, 1) := by decide +kernel
theorem dX4_init_0 : decode cX4_init 0 = .ok (.aload_n 0, 1) := by decide +kernel
theorem dX4_init_1 : decode cX4_init 1 = .ok (.invokespecial 3, 3) := by decide +kernel
theorem dX4_init_4 : decode cX4_init 4 = .ok (.aload_n 0, 1) := by decide +kernel
theorem dX4_init_5 : decode cX4_init 5 = .ok (.iconst 1, 1) := by decide +kernel
theorem dX4_init_6 : decode cX4_init 6 = .ok (.putfield 9, 3) := by decide +kernel
theorem dX4_init_9 : decode cX4_init 9 = .ok (.aload_n 0, 1) := by decide +kernel
theorem dX4_init_10 : decode cX4_init 10 = .ok (.iconst 1, 1) := by decide +kernel
theorem dX4_init_11 : decode cX4_init 11 = .ok (.putfield 15, 3) := by decide +kernel
theorem dX4_init_14 : decode cX4_init 14 = .ok (.aload_n 0, 1) := by decide +kernel
theorem dX4_init_15 : decode cX4_init 15 = .ok (.iconst 0, 1) := by decide +kernel
theorem dX4_init_16 : decode cX4_init 16 = .ok (.newarray .int, 2) := by decide +kernel
theorem dX4_init_18 : decode cX4_init 18 = .ok (.putfield 18, 3) := by decide +kernel
theorem dX4_init_21 : decode cX4_init 21 = .ok (.aload_n 0, 1) := by decide +kernel
theorem dX4_init_22 : decode cX4_init 22 = .ok (.iconst 0, 1) := by decide +kernel
theorem dX4_init_23 : decode cX4_init 23 = .ok (.newarray .int, 2) := by decide +kernel
theorem dX4_init_25 : decode cX4_init 25 = .ok (.putfield 22, 3) := by decide +kernel
theorem dX4_init_28 : decode cX4_init 28 = .ok (.aload_n 0, 1) := by decide +kernel
theorem dX4_init_29 : decode cX4_init 29 = .ok (.iconst 0, 1) := by decide +kernel
theorem dX4_init_30 : decode cX4_init 30 = .ok (.newarray .int, 2) := by decide +kernel
theorem dX4_init_32 : decode cX4_init 32 = .ok (.putfield 25, 3) := by decide +kernel
theorem dX4_init_35 : decode cX4_init 35 = .ok (.return_, 1) := by decide +kernel
set_option maxRecDepth 20000 in
theorem ggX4_prepare_X6_roomFor : GoodIn wsX4_prepare wsX6_roomFor := goodIn_r _ [9, 10] (by decide +kernel) (by decide +kernel)
set_option maxRecDepth 20000 in
theorem gX4_prepare_X6_roomFor_n35 : GoodIn wsX4_prepare (wsX6_roomFor) := ggX4_prepare_X6_roomFor
set_option maxRecDepth 20000 in
theorem ggX4_prepare_X1_twistingSum : GoodIn wsX4_prepare wsX1_twistingSum := goodIn_r _ [15, 16, 17, 24, 25, 26, 27, 28, 29, 30, 31] (by decide +kernel) (by decide +kernel)
set_option maxRecDepth 20000 in
theorem gX4_prepare_X1_twistingSum : GoodIn wsX4_prepare (wsV RX4 39 RX1 yX1_twistingSum wsX1_twistingSum) := goodIn_app (goodIn_of _ (by decide +kernel)) ggX4_prepare_X1_twistingSum
theorem dX4_prepare_0 : decode cX4_prepare 0 = .ok (.aload_n 0, 1) := by decide +kernel
theorem dX4_prepare_1 : decode cX4_prepare 1 = .ok (.iload_n 2, 1) := by decide +kernel
theorem dX4_prepare_2 : decode cX4_prepare 2 = .ok (.putfield 28, 3) := by decide +kernel
theorem dX4_prepare_5 : decode cX4_prepare 5 = .ok (.aload_n 0, 1) := by decide +kernel
theorem dX4_prepare_6 : decode cX4_prepare 6 = .ok (.aload_n 1, 1) := by decide +kernel
theorem dX4_prepare_7 : decode cX4_prepare 7 = .ok (.getfield 31, 3) := by decide +kernel
theorem dX4_prepare_10 : decode cX4_prepare 10 = .ok (.putfield 9, 3) := by decide +kernel
theorem dX4_prepare_13 : decode cX4_prepare 13 = .ok (.aload_n 0, 1) := by decide +kernel
theorem dX4_prepare_14 : decode cX4_prepare 14 = .ok (.aload_n 1, 1) := by decide +kernel
theorem dX4_prepare_15 : decode cX4_prepare 15 = .ok (.getfield 34, 3) := by decide +kernel
theorem dX4_prepare_18 : decode cX4_prepare 18 = .ok (.putfield 15, 3) := by decide +kernel
theorem dX4_prepare_21 : decode cX4_prepare 21 = .ok (.aload_n 0, 1) := by decide +kernel
theorem dX4_prepare_22 : decode cX4_prepare 22 = .ok (.aload_n 0, 1) := by decide +kernel
theorem dX4_prepare_23 : decode cX4_prepare 23 = .ok (.getfield 18, 3) := by decide +kernel
theorem dX4_prepare_26 : decode cX4_prepare 26 = .ok (.bipush 6, 2) := by decide +kernel
theorem dX4_prepare_28 : decode cX4_prepare 28 = .ok (.aload_n 0, 1) := by decide +kernel
theorem dX4_prepare_29 : decode cX4_prepare 29 = .ok (.getfield 9, 3) := by decide +kernel
theorem dX4_prepare_32 : decode cX4_prepare 32 = .ok (.imul, 1) := by decide +kernel
theorem dX4_prepare_33 : decode cX4_prepare 33 = .ok (.invokestatic 35, 3) := by decide +kernel
theorem dX4_prepare_36 : decode cX4_prepare 36 = .ok (.putfield 18, 3) := by decide +kernel
theorem dX4_prepare_39 : decode cX4_prepare 39 = .ok (.aload_n 0, 1) := by decide +kernel
theorem dX4_prepare_40 : decode cX4_prepare 40 = .ok (.aload_n 0, 1) := by decide +kernel
theorem dX4_prepare_41 : decode cX4_prepare 41 = .ok (.getfield 22, 3) := by decide +kernel
theorem dX4_prepare_44 : decode cX4_prepare 44 = .ok (.bipush 6, 2) := by decide +kernel
theorem dX4_prepare_46 : decode cX4_prepare 46 = .ok (.aload_n 0, 1) := by decide +kernel
theorem dX4_prepare_47 : decode cX4_prepare 47 = .ok (.getfield 9, 3) := by decide +kernel
theorem dX4_prepare_50 : decode cX4_prepare 50 = .ok (.imul, 1) := by decide +kernel
theorem dX4_prepare_51 : decode cX4_prepare 51 = .ok (.invokestatic 35, 3) := by decide +kernel
theorem dX4_prepare_54 : decode cX4_prepare 54 = .ok (.putfield 22, 3) := by decide +kernel
theorem dX4_prepare_57 : decode cX4_prepare 57 = .ok (.aload_n 0, 1) := by decide +kernel
theorem dX4_prepare_58 : decode cX4_prepare 58 = .ok (.aload_n 0, 1) := by decide +kernel
theorem dX4_prepare_59 : decode cX4_prepare 59 = .ok (.getfield 25, 3) := by decide +kernel
theorem dX4_prepare_62 : decode cX4_prepare 62 = .ok (.aload_n 0, 1) := by decide +kernel
theorem dX4_prepare_63 : decode cX4_prepare 63 = .ok (.getfield 15, 3) := by decide +kernel
theorem dX4_prepare_66 : decode cX4_prepare 66 = .ok (.aload_n 0, 1) := by decide +kernel
theorem dX4_prepare_67 : decode cX4_prepare 67 = .ok (.getfield 15, 3) := by decide +kernel
theorem dX4_prepare_70 : decode cX4_prepare 70 = .ok (.imul, 1) := by decide +kernel
theorem dX4_prepare_71 : decode cX4_prepare 71 = .ok (.invokestatic 35, 3) := by decide +kernel
theorem dX4_prepare_74 : decode cX4_prepare 74 = .ok (.putfield 25, 3) := by decide +kernel
theorem dX4_prepare_77 : decode cX4_prepare 77 = .ok (.iconst 0, 1) := by decide +kernel
theorem dX4_prepare_78 : decode cX4_prepare 78 = .ok (.istore_n 3, 1) := by decide +kernel
theorem dX4_prepare_79 : decode cX4_prepare 79 = .ok (.iload_n 3, 1) := by decide +kernel
theorem dX4_prepare_80 : decode cX4_prepare 80 = .ok (.aload_n 0, 1) := by decide +kernel
theorem dX4_prepare_81 : decode cX4_prepare 81 = .ok (.getfield 15, 3) := by decide +kernel
theorem dX4_prepare_84 : decode cX4_prepare 84 = .ok (.if_icmp .ge 48, 3) := by decide +kernel
theorem dX4_prepare_87 : decode cX4_prepare 87 = .ok (.iconst 0, 1) := by decide +kernel
theorem dX4_prepare_88 : decode cX4_prepare 88 = .ok (.istore 4, 2) := by decide +kernel
theorem dX4_prepare_90 : decode cX4_prepare 90 = .ok (.iload 4, 2) := by decide +kernel
theorem dX4_prepare_92 : decode cX4_prepare 92 = .ok (.aload_n 0, 1) := by decide +kernel
theorem dX4_prepare_93 : decode cX4_prepare 93 = .ok (.getfield 15, 3) := by decide +kernel
theorem dX4_prepare_96 : decode cX4_prepare 96 = .ok (.if_icmp .ge 30, 3) := by decide +kernel
theorem dX4_prepare_99 : decode cX4_prepare 99 = .ok (.aload_n 0, 1) := by decide +kernel
theorem dX4_prepare_100 : decode cX4_prepare 100 = .ok (.getfield 25, 3) := by decide +kernel
theorem dX4_prepare_103 : decode cX4_prepare 103 = .ok (.iload_n 3, 1) := by decide +kernel
theorem dX4_prepare_104 : decode cX4_prepare 104 = .ok (.aload_n 0, 1) := by decide +kernel
theorem dX4_prepare_105 : decode cX4_prepare 105 = .ok (.getfield 15, 3) := by decide +kernel
theorem dX4_prepare_108 : decode cX4_prepare 108 = .ok (.imul, 1) := by decide +kernel
theorem dX4_prepare_109 : decode cX4_prepare 109 = .ok (.iload 4, 2) := by decide +kernel
theorem dX4_prepare_111 : decode cX4_prepare 111 = .ok (.iadd, 1) := by decide +kernel
theorem dX4_prepare_112 : decode cX4_prepare 112 = .ok (.aload_n 1, 1) := by decide +kernel
theorem dX4_prepare_113 : decode cX4_prepare 113 = .ok (.iload_n 3, 1) := by decide +kernel
theorem dX4_prepare_114 : decode cX4_prepare 114 = .ok (.iload 4, 2) := by decide +kernel
theorem dX4_prepare_116 : decode cX4_prepare 116 = .ok (.invokevirtual 39, 3) := by decide +kernel
theorem dX4_prepare_119 : decode cX4_prepare 119 = .ok (.iastore, 1) := by decide +kernel
theorem dX4_prepare_120 : decode cX4_prepare 120 = .ok (.iinc 4 1, 3) := by decide +kernel
theorem dX4_prepare_123 : decode cX4_prepare 123 = .ok (.goto (-33), 3) := by decide +kernel
theorem dX4_prepare_126 : decode cX4_prepare 126 = .ok (.iinc 3 1, 3) := by decide +kernel
theorem dX4_prepare_129 : decode cX4_prepare 129 = .ok (.goto (-50), 3) := by decide +kernel
theorem dX4_prepare_132 : decode cX4_prepare 132 = .ok (.return_, 1) := by decide +kernel
set_option maxRecDepth 20000 in
theorem ggX4_learn_X1_read : GoodIn wsX4_learn wsX1_read := goodIn_ca (goodIn_r _ [9, 10, 11, 12, 13, 8, 14, 15, 16, 17, 18, 19, 20, 21, 22, 23, 24, 25, 26, 27, 52, 53, 54, 55, 56, 57, 58, 59, 60, 61] (by decide +kernel) (by decide +kernel)) (goodIn_sub (fun _ h => List.mem_cons_of_mem _ (List.mem_append_right _ h)) (by decide +kernel))
set_option maxRecDepth 20000 in
theorem gX4_learn_X1_read : GoodIn wsX4_learn (wsV RX4 43 RX1 yX1_read wsX1_read) := goodIn_app (goodIn_of _ (by decide +kernel)) ggX4_learn_X1_read
set_option maxRecDepth 20000 in
theorem ggX4_learn_X3_follow : GoodIn wsX4_learn wsX3_follow := goodIn_ca (goodIn_r _ [32, 33, 34, 60, 61, 62, 63, 64] (by decide +kernel) (by decide +kernel)) (goodIn_sub (fun _ h => List.mem_cons_of_mem _ (List.mem_append_right _ h)) (by decide +kernel))
set_option maxRecDepth 20000 in
theorem gX4_learn_X3_follow : GoodIn wsX4_learn (wsV RX4 47 RX3 yX3_follow wsX3_follow) := goodIn_app (goodIn_of _ (by decide +kernel)) ggX4_learn_X3_follow
set_option maxRecDepth 20000 in
theorem ggX4_learn_X1_numberOf : GoodIn wsX4_learn wsX1_numberOf := goodIn_ca (goodIn_r _ [38, 15, 16, 23, 17, 39, 40, 41, 42, 43, 44, 45, 52, 53, 54, 55, 56, 57, 58, 59, 60, 61] (by decide +kernel) (by decide +kernel)) (goodIn_sub (fun _ h => List.mem_cons_of_mem _ (List.mem_append_right _ h)) (by decide +kernel))
set_option maxRecDepth 20000 in
theorem gX4_learn_X1_numberOf : GoodIn wsX4_learn (wsV RX4 53 RX1 yX1_numberOf wsX1_numberOf) := goodIn_app (goodIn_of _ (by decide +kernel)) ggX4_learn_X1_numberOf
theorem dX4_learn_0 : decode cX4_learn 0 = .ok (.iconst 0, 1) := by decide +kernel
theorem dX4_learn_1 : decode cX4_learn 1 = .ok (.istore 5, 2) := by decide +kernel
theorem dX4_learn_3 : decode cX4_learn 3 = .ok (.iload 5, 2) := by decide +kernel
theorem dX4_learn_5 : decode cX4_learn 5 = .ok (.aload_n 0, 1) := by decide +kernel
theorem dX4_learn_6 : decode cX4_learn 6 = .ok (.getfield 9, 3) := by decide +kernel
theorem dX4_learn_9 : decode cX4_learn 9 = .ok (.if_icmp .ge 78, 3) := by decide +kernel
theorem dX4_learn_12 : decode cX4_learn 12 = .ok (.aload_n 3, 1) := by decide +kernel
theorem dX4_learn_13 : decode cX4_learn 13 = .ok (.iload 5, 2) := by decide +kernel
theorem dX4_learn_15 : decode cX4_learn 15 = .ok (.aload_n 0, 1) := by decide +kernel
theorem dX4_learn_16 : decode cX4_learn 16 = .ok (.getfield 15, 3) := by decide +kernel
theorem dX4_learn_19 : decode cX4_learn 19 = .ok (.imul, 1) := by decide +kernel
theorem dX4_learn_20 : decode cX4_learn 20 = .ok (.aload 4, 2) := by decide +kernel
theorem dX4_learn_22 : decode cX4_learn 22 = .ok (.invokevirtual 43, 3) := by decide +kernel
theorem dX4_learn_25 : decode cX4_learn 25 = .ok (.aload 4, 2) := by decide +kernel
theorem dX4_learn_27 : decode cX4_learn 27 = .ok (.aload_n 2, 1) := by decide +kernel
theorem dX4_learn_28 : decode cX4_learn 28 = .ok (.invokevirtual 47, 3) := by decide +kernel
theorem dX4_learn_31 : decode cX4_learn 31 = .ok (.aload_n 3, 1) := by decide +kernel
theorem dX4_learn_32 : decode cX4_learn 32 = .ok (.aload 4, 2) := by decide +kernel
theorem dX4_learn_34 : decode cX4_learn 34 = .ok (.invokevirtual 53, 3) := by decide +kernel
theorem dX4_learn_37 : decode cX4_learn 37 = .ok (.istore 6, 2) := by decide +kernel
theorem dX4_learn_39 : decode cX4_learn 39 = .ok (.aload_n 0, 1) := by decide +kernel
theorem dX4_learn_40 : decode cX4_learn 40 = .ok (.getfield 18, 3) := by decide +kernel
theorem dX4_learn_43 : decode cX4_learn 43 = .ok (.iload_n 1, 1) := by decide +kernel
theorem dX4_learn_44 : decode cX4_learn 44 = .ok (.aload_n 0, 1) := by decide +kernel
theorem dX4_learn_45 : decode cX4_learn 45 = .ok (.getfield 9, 3) := by decide +kernel
theorem dX4_learn_48 : decode cX4_learn 48 = .ok (.imul, 1) := by decide +kernel
theorem dX4_learn_49 : decode cX4_learn 49 = .ok (.iload 5, 2) := by decide +kernel
theorem dX4_learn_51 : decode cX4_learn 51 = .ok (.iadd, 1) := by decide +kernel
theorem dX4_learn_52 : decode cX4_learn 52 = .ok (.iload 6, 2) := by decide +kernel
theorem dX4_learn_54 : decode cX4_learn 54 = .ok (.aload_n 0, 1) := by decide +kernel
theorem dX4_learn_55 : decode cX4_learn 55 = .ok (.getfield 15, 3) := by decide +kernel
theorem dX4_learn_58 : decode cX4_learn 58 = .ok (.idiv, 1) := by decide +kernel
theorem dX4_learn_59 : decode cX4_learn 59 = .ok (.iastore, 1) := by decide +kernel
theorem dX4_learn_60 : decode cX4_learn 60 = .ok (.aload_n 0, 1) := by decide +kernel
theorem dX4_learn_61 : decode cX4_learn 61 = .ok (.getfield 22, 3) := by decide +kernel
theorem dX4_learn_64 : decode cX4_learn 64 = .ok (.iload_n 1, 1) := by decide +kernel
theorem dX4_learn_65 : decode cX4_learn 65 = .ok (.aload_n 0, 1) := by decide +kernel
theorem dX4_learn_66 : decode cX4_learn 66 = .ok (.getfield 9, 3) := by decide +kernel
theorem dX4_learn_69 : decode cX4_learn 69 = .ok (.imul, 1) := by decide +kernel
theorem dX4_learn_70 : decode cX4_learn 70 = .ok (.iload 5, 2) := by decide +kernel
theorem dX4_learn_72 : decode cX4_learn 72 = .ok (.iadd, 1) := by decide +kernel
theorem dX4_learn_73 : decode cX4_learn 73 = .ok (.iload 6, 2) := by decide +kernel
theorem dX4_learn_75 : decode cX4_learn 75 = .ok (.aload_n 0, 1) := by decide +kernel
theorem dX4_learn_76 : decode cX4_learn 76 = .ok (.getfield 15, 3) := by decide +kernel
theorem dX4_learn_79 : decode cX4_learn 79 = .ok (.irem, 1) := by decide +kernel
theorem dX4_learn_80 : decode cX4_learn 80 = .ok (.iastore, 1) := by decide +kernel
theorem dX4_learn_81 : decode cX4_learn 81 = .ok (.iinc 5 1, 3) := by decide +kernel
theorem dX4_learn_84 : decode cX4_learn 84 = .ok (.goto (-81), 3) := by decide +kernel
theorem dX4_learn_87 : decode cX4_learn 87 = .ok (.return_, 1) := by decide +kernel
theorem dX4_after_0 : decode cX4_after 0 = .ok (.iload_n 1, 1) := by decide +kernel
theorem dX4_after_1 : decode cX4_after 1 = .ok (.aload_n 0, 1) := by decide +kernel
theorem dX4_after_2 : decode cX4_after 2 = .ok (.getfield 15, 3) := by decide +kernel
theorem dX4_after_5 : decode cX4_after 5 = .ok (.idiv, 1) := by decide +kernel
theorem dX4_after_6 : decode cX4_after 6 = .ok (.istore_n 3, 1) := by decide +kernel
theorem dX4_after_7 : decode cX4_after 7 = .ok (.iload_n 1, 1) := by decide +kernel
theorem dX4_after_8 : decode cX4_after 8 = .ok (.iload_n 3, 1) := by decide +kernel
theorem dX4_after_9 : decode cX4_after 9 = .ok (.aload_n 0, 1) := by decide +kernel
theorem dX4_after_10 : decode cX4_after 10 = .ok (.getfield 15, 3) := by decide +kernel
theorem dX4_after_13 : decode cX4_after 13 = .ok (.imul, 1) := by decide +kernel
theorem dX4_after_14 : decode cX4_after 14 = .ok (.isub, 1) := by decide +kernel
theorem dX4_after_15 : decode cX4_after 15 = .ok (.istore 4, 2) := by decide +kernel
theorem dX4_after_17 : decode cX4_after 17 = .ok (.iload_n 2, 1) := by decide +kernel
theorem dX4_after_18 : decode cX4_after 18 = .ok (.aload_n 0, 1) := by decide +kernel
theorem dX4_after_19 : decode cX4_after 19 = .ok (.getfield 9, 3) := by decide +kernel
theorem dX4_after_22 : decode cX4_after 22 = .ok (.imul, 1) := by decide +kernel
theorem dX4_after_23 : decode cX4_after 23 = .ok (.iload_n 3, 1) := by decide +kernel
theorem dX4_after_24 : decode cX4_after 24 = .ok (.iadd, 1) := by decide +kernel
theorem dX4_after_25 : decode cX4_after 25 = .ok (.istore 5, 2) := by decide +kernel
theorem dX4_after_27 : decode cX4_after 27 = .ok (.aload_n 0, 1) := by decide +kernel
theorem dX4_after_28 : decode cX4_after 28 = .ok (.getfield 18, 3) := by decide +kernel
theorem dX4_after_31 : decode cX4_after 31 = .ok (.iload 5, 2) := by decide +kernel
theorem dX4_after_33 : decode cX4_after 33 = .ok (.iaload, 1) := by decide +kernel
theorem dX4_after_34 : decode cX4_after 34 = .ok (.aload_n 0, 1) := by decide +kernel
theorem dX4_after_35 : decode cX4_after 35 = .ok (.getfield 15, 3) := by decide +kernel
theorem dX4_after_38 : decode cX4_after 38 = .ok (.imul, 1) := by decide +kernel
theorem dX4_after_39 : decode cX4_after 39 = .ok (.aload_n 0, 1) := by decide +kernel
theorem dX4_after_40 : decode cX4_after 40 = .ok (.getfield 25, 3) := by decide +kernel
theorem dX4_after_43 : decode cX4_after 43 = .ok (.iload 4, 2) := by decide +kernel
theorem dX4_after_45 : decode cX4_after 45 = .ok (.aload_n 0, 1) := by decide +kernel
theorem dX4_after_46 : decode cX4_after 46 = .ok (.getfield 15, 3) := by decide +kernel
theorem dX4_after_49 : decode cX4_after 49 = .ok (.imul, 1) := by decide +kernel
theorem dX4_after_50 : decode cX4_after 50 = .ok (.aload_n 0, 1) := by decide +kernel
theorem dX4_after_51 : decode cX4_after 51 = .ok (.getfield 22, 3) := by decide +kernel
theorem dX4_after_54 : decode cX4_after 54 = .ok (.iload 5, 2) := by decide +kernel
theorem dX4_after_56 : decode cX4_after 56 = .ok (.iaload, 1) := by decide +kernel
theorem dX4_after_57 : decode cX4_after 57 = .ok (.iadd, 1) := by decide +kernel
theorem dX4_after_58 : decode cX4_after 58 = .ok (.iaload, 1) := by decide +kernel
theorem dX4_after_59 : decode cX4_after 59 = .ok (.iadd, 1) := by decide +kernel
theorem dX4_after_60 : decode cX4_after 60 = .ok (.ireturn, 1) := by decide +kernel
theorem dX5_init_0 : decode cX5_init 0 = .ok (.aload_n 0, 1) := by decide +kernel
theorem dX5_init_1 : decode cX5_init 1 = .ok (.invokespecial 3, 3) := by decide +kernel
theorem dX5_init_4 : decode cX5_init 4 = .ok (.aload_n 0, 1) := by decide +kernel
theorem dX5_init_5 : decode cX5_init 5 = .ok (.iconst 0, 1) := by decide +kernel
theorem dX5_init_6 : decode cX5_init 6 = .ok (.newarray .int, 2) := by decide +kernel
theorem dX5_init_8 : decode cX5_init 8 = .ok (.putfield 9, 3) := by decide +kernel
theorem dX5_init_11 : decode cX5_init 11 = .ok (.aload_n 0, 1) := by decide +kernel
theorem dX5_init_12 : decode cX5_init 12 = .ok (.iconst 0, 1) := by decide +kernel
theorem dX5_init_13 : decode cX5_init 13 = .ok (.newarray .int, 2) := by decide +kernel
theorem dX5_init_15 : decode cX5_init 15 = .ok (.putfield 15, 3) := by decide +kernel
theorem dX5_init_18 : decode cX5_init 18 = .ok (.return_, 1) := by decide +kernel
theorem dX5_drop_0 : decode cX5_drop 0 = .ok (.aload_n 0, 1) := by decide +kernel
theorem dX5_drop_1 : decode cX5_drop 1 = .ok (.iconst 0, 1) := by decide +kernel
theorem dX5_drop_2 : decode cX5_drop 2 = .ok (.putfield 18, 3) := by decide +kernel
theorem dX5_drop_5 : decode cX5_drop 5 = .ok (.return_, 1) := by decide +kernel
set_option maxRecDepth 20000 in
theorem ggX5_grow_X1_stateCount : GoodIn wsX5_grow wsX1_stateCount := goodIn_r _ [11, 12, 13, 58, 59, 60, 61, 62, 63, 64, 65] (by decide +kernel) (by decide +kernel)
set_option maxRecDepth 20000 in
theorem gX5_grow_X1_stateCount : GoodIn wsX5_grow (wsV RX5 26 RX1 yX1_stateCount wsX1_stateCount) := goodIn_app (goodIn_of _ (by decide +kernel)) ggX5_grow_X1_stateCount
set_option maxRecDepth 20000 in
theorem ggX5_grow_X6_roomFor : GoodIn wsX5_grow wsX6_roomFor := goodIn_r _ [16, 17] (by decide +kernel) (by decide +kernel)
set_option maxRecDepth 20000 in
theorem gX5_grow_X6_roomFor_n35 : GoodIn wsX5_grow (wsX6_roomFor) := ggX5_grow_X6_roomFor
set_option maxRecDepth 20000 in
theorem ggX5_grow_J7_fill_fda19 : GoodIn wsX5_grow wsJ7_fill_fda19 := goodIn_r _ [21, 22, 23, 20, 24, 25, 26, 27, 28, 29, 30, 66, 67, 68, 69, 70, 71, 72, 73, 74, 75] (by decide +kernel) (by decide +kernel)
set_option maxRecDepth 20000 in
theorem gX5_grow_J7_fill_fda19 : GoodIn wsX5_grow (va_wsS RX5 39 yJ7_fill_fda19 wsJ7_fill_fda19) := goodIn_app (goodIn_of _ (by decide +kernel)) ggX5_grow_J7_fill_fda19
set_option maxRecDepth 20000 in
theorem ggX5_grow_X5_spread : GoodIn wsX5_grow wsX5_spread := goodIn_ca (goodIn_r _ [35, 4, 5, 6, 36, 37, 38, 39, 40, 41, 42, 43, 44, 45, 46, 47, 48, 49, 50, 51, 52, 53, 54, 55, 56, 57] (by decide +kernel) (by decide +kernel)) (goodIn_sub (fun _ h => List.mem_cons_of_mem _ (List.mem_append_right _ h)) (by decide +kernel))
set_option maxRecDepth 20000 in
theorem gX5_grow_X5_spread : GoodIn wsX5_grow (wsV RX5 53 RX5 yX5_spread wsX5_spread) := goodIn_app (goodIn_of _ (by decide +kernel)) ggX5_grow_X5_spread
theorem dX5_grow_0 : decode cX5_grow 0 = .ok (.aload_n 0, 1) := by decide +kernel
theorem dX5_grow_1 : decode cX5_grow 1 = .ok (.iconst 1, 1) := by decide +kernel
theorem dX5_grow_2 : decode cX5_grow 2 = .ok (.putfield 18, 3) := by decide +kernel
theorem dX5_grow_5 : decode cX5_grow 5 = .ok (.aload_n 0, 1) := by decide +kernel
theorem dX5_grow_6 : decode cX5_grow 6 = .ok (.iload_n 3, 1) := by decide +kernel
theorem dX5_grow_7 : decode cX5_grow 7 = .ok (.putfield 22, 3) := by decide +kernel
theorem dX5_grow_10 : decode cX5_grow 10 = .ok (.aload_n 0, 1) := by decide +kernel
theorem dX5_grow_11 : decode cX5_grow 11 = .ok (.aload_n 1, 1) := by decide +kernel
theorem dX5_grow_12 : decode cX5_grow 12 = .ok (.invokevirtual 26, 3) := by decide +kernel
theorem dX5_grow_15 : decode cX5_grow 15 = .ok (.putfield 32, 3) := by decide +kernel
theorem dX5_grow_18 : decode cX5_grow 18 = .ok (.aload_n 0, 1) := by decide +kernel
theorem dX5_grow_19 : decode cX5_grow 19 = .ok (.aload_n 0, 1) := by decide +kernel
theorem dX5_grow_20 : decode cX5_grow 20 = .ok (.getfield 9, 3) := by decide +kernel
theorem dX5_grow_23 : decode cX5_grow 23 = .ok (.aload_n 0, 1) := by decide +kernel
theorem dX5_grow_24 : decode cX5_grow 24 = .ok (.getfield 32, 3) := by decide +kernel
theorem dX5_grow_27 : decode cX5_grow 27 = .ok (.invokestatic 35, 3) := by decide +kernel
theorem dX5_grow_30 : decode cX5_grow 30 = .ok (.putfield 9, 3) := by decide +kernel
theorem dX5_grow_33 : decode cX5_grow 33 = .ok (.aload_n 0, 1) := by decide +kernel
theorem dX5_grow_34 : decode cX5_grow 34 = .ok (.aload_n 0, 1) := by decide +kernel
theorem dX5_grow_35 : decode cX5_grow 35 = .ok (.getfield 15, 3) := by decide +kernel
theorem dX5_grow_38 : decode cX5_grow 38 = .ok (.aload_n 0, 1) := by decide +kernel
theorem dX5_grow_39 : decode cX5_grow 39 = .ok (.getfield 32, 3) := by decide +kernel
theorem dX5_grow_42 : decode cX5_grow 42 = .ok (.invokestatic 35, 3) := by decide +kernel
theorem dX5_grow_45 : decode cX5_grow 45 = .ok (.putfield 15, 3) := by decide +kernel
theorem dX5_grow_48 : decode cX5_grow 48 = .ok (.aload_n 0, 1) := by decide +kernel
theorem dX5_grow_49 : decode cX5_grow 49 = .ok (.getfield 9, 3) := by decide +kernel
theorem dX5_grow_52 : decode cX5_grow 52 = .ok (.iconst 0, 1) := by decide +kernel
theorem dX5_grow_53 : decode cX5_grow 53 = .ok (.aload_n 0, 1) := by decide +kernel
theorem dX5_grow_54 : decode cX5_grow 54 = .ok (.getfield 32, 3) := by decide +kernel
theorem dX5_grow_57 : decode cX5_grow 57 = .ok (.iconst (-1), 1) := by decide +kernel
theorem dX5_grow_58 : decode cX5_grow 58 = .ok (.invokestatic 39, 3) := by decide +kernel
theorem dX5_grow_61 : decode cX5_grow 61 = .ok (.aload_n 0, 1) := by decide +kernel
theorem dX5_grow_62 : decode cX5_grow 62 = .ok (.getfield 9, 3) := by decide +kernel
theorem dX5_grow_65 : decode cX5_grow 65 = .ok (.iload_n 2, 1) := by decide +kernel
theorem dX5_grow_66 : decode cX5_grow 66 = .ok (.iconst 0, 1) := by decide +kernel
theorem dX5_grow_67 : decode cX5_grow 67 = .ok (.iastore, 1) := by decide +kernel
theorem dX5_grow_68 : decode cX5_grow 68 = .ok (.aload_n 0, 1) := by decide +kernel
theorem dX5_grow_69 : decode cX5_grow 69 = .ok (.getfield 15, 3) := by decide +kernel
theorem dX5_grow_72 : decode cX5_grow 72 = .ok (.iconst 0, 1) := by decide +kernel
theorem dX5_grow_73 : decode cX5_grow 73 = .ok (.iload_n 2, 1) := by decide +kernel
theorem dX5_grow_74 : decode cX5_grow 74 = .ok (.iastore, 1) := by decide +kernel
theorem dX5_grow_75 : decode cX5_grow 75 = .ok (.aload_n 0, 1) := by decide +kernel
theorem dX5_grow_76 : decode cX5_grow 76 = .ok (.iconst 1, 1) := by decide +kernel
theorem dX5_grow_77 : decode cX5_grow 77 = .ok (.putfield 45, 3) := by decide +kernel
theorem dX5_grow_80 : decode cX5_grow 80 = .ok (.iconst 0, 1) := by decide +kernel
theorem dX5_grow_81 : decode cX5_grow 81 = .ok (.istore 6, 2) := by decide +kernel
theorem dX5_grow_83 : decode cX5_grow 83 = .ok (.iload 6, 2) := by decide +kernel
theorem dX5_grow_85 : decode cX5_grow 85 = .ok (.aload_n 0, 1) := by decide +kernel
theorem dX5_grow_86 : decode cX5_grow 86 = .ok (.getfield 32, 3) := by decide +kernel
theorem dX5_grow_89 : decode cX5_grow 89 = .ok (.if_icmp .ge 57, 3) := by decide +kernel
theorem dX5_grow_92 : decode cX5_grow 92 = .ok (.iload 6, 2) := by decide +kernel
theorem dX5_grow_94 : decode cX5_grow 94 = .ok (.aload_n 0, 1) := by decide +kernel
theorem dX5_grow_95 : decode cX5_grow 95 = .ok (.getfield 45, 3) := by decide +kernel
theorem dX5_grow_98 : decode cX5_grow 98 = .ok (.if_icmp .ge 48, 3) := by decide +kernel
theorem dX5_grow_101 : decode cX5_grow 101 = .ok (.iconst 0, 1) := by decide +kernel
theorem dX5_grow_102 : decode cX5_grow 102 = .ok (.istore 7, 2) := by decide +kernel
theorem dX5_grow_104 : decode cX5_grow 104 = .ok (.iload 7, 2) := by decide +kernel
theorem dX5_grow_106 : decode cX5_grow 106 = .ok (.aload 4, 2) := by decide +kernel
theorem dX5_grow_108 : decode cX5_grow 108 = .ok (.getfield 48, 3) := by decide +kernel
theorem dX5_grow_111 : decode cX5_grow 111 = .ok (.if_icmp .ge 29, 3) := by decide +kernel
theorem dX5_grow_114 : decode cX5_grow 114 = .ok (.aload_n 0, 1) := by decide +kernel
theorem dX5_grow_115 : decode cX5_grow 115 = .ok (.aload_n 0, 1) := by decide +kernel
theorem dX5_grow_116 : decode cX5_grow 116 = .ok (.getfield 15, 3) := by decide +kernel
theorem dX5_grow_119 : decode cX5_grow 119 = .ok (.iload 6, 2) := by decide +kernel
theorem dX5_grow_121 : decode cX5_grow 121 = .ok (.iaload, 1) := by decide +kernel
theorem dX5_grow_122 : decode cX5_grow 122 = .ok (.iload 7, 2) := by decide +kernel
theorem dX5_grow_124 : decode cX5_grow 124 = .ok (.aload 4, 2) := by decide +kernel
theorem dX5_grow_126 : decode cX5_grow 126 = .ok (.aload 5, 2) := by decide +kernel
theorem dX5_grow_128 : decode cX5_grow 128 = .ok (.iload 7, 2) := by decide +kernel
theorem dX5_grow_130 : decode cX5_grow 130 = .ok (.iaload, 1) := by decide +kernel
theorem dX5_grow_131 : decode cX5_grow 131 = .ok (.invokevirtual 53, 3) := by decide +kernel
theorem dX5_grow_134 : decode cX5_grow 134 = .ok (.iinc 7 1, 3) := by decide +kernel
theorem dX5_grow_137 : decode cX5_grow 137 = .ok (.goto (-33), 3) := by decide +kernel
theorem dX5_grow_140 : decode cX5_grow 140 = .ok (.iinc 6 1, 3) := by decide +kernel
theorem dX5_grow_143 : decode cX5_grow 143 = .ok (.goto (-60), 3) := by decide +kernel
theorem dX5_grow_146 : decode cX5_grow 146 = .ok (.aload_n 0, 1) := by decide +kernel
theorem dX5_grow_147 : decode cX5_grow 147 = .ok (.getfield 9, 3) := by decide +kernel
theorem dX5_grow_150 : decode cX5_grow 150 = .ok (.aload_n 0, 1) := by decide +kernel
theorem dX5_grow_151 : decode cX5_grow 151 = .ok (.getfield 15, 3) := by decide +kernel
theorem dX5_grow_154 : decode cX5_grow 154 = .ok (.aload_n 0, 1) := by decide +kernel
theorem dX5_grow_155 : decode cX5_grow 155 = .ok (.getfield 45, 3) := by decide +kernel
theorem dX5_grow_158 : decode cX5_grow 158 = .ok (.iconst 1, 1) := by decide +kernel
theorem dX5_grow_159 : decode cX5_grow 159 = .ok (.isub, 1) := by decide +kernel
theorem dX5_grow_160 : decode cX5_grow 160 = .ok (.iaload, 1) := by decide +kernel
theorem dX5_grow_161 : decode cX5_grow 161 = .ok (.iaload, 1) := by decide +kernel
theorem dX5_grow_162 : decode cX5_grow 162 = .ok (.ireturn, 1) := by decide +kernel
set_option maxRecDepth 20000 in
theorem ggX5_spread_X4_after : GoodIn wsX5_spread wsX4_after := goodIn_ca (goodIn_r _ [8, 9, 10, 11, 12, 13, 20, 21, 22, 23, 24, 25] (by decide +kernel) (by decide +kernel)) (goodIn_sub (fun _ h => List.mem_cons_of_mem _ (List.mem_append_right _ h)) (by decide +kernel))
set_option maxRecDepth 20000 in
theorem gX5_spread_X4_after : GoodIn wsX5_spread (wsV RX5 57 RX4 yX4_after wsX4_after) := goodIn_app (goodIn_of _ (by decide +kernel)) ggX5_spread_X4_after
theorem dX5_spread_0 : decode cX5_spread 0 = .ok (.iload_n 1, 1) := by decide +kernel
theorem dX5_spread_1 : decode cX5_spread 1 = .ok (.istore 5, 2) := by decide +kernel
theorem dX5_spread_3 : decode cX5_spread 3 = .ok (.iconst 0, 1) := by decide +kernel
theorem dX5_spread_4 : decode cX5_spread 4 = .ok (.istore 6, 2) := by decide +kernel
theorem dX5_spread_6 : decode cX5_spread 6 = .ok (.iload 6, 2) := by decide +kernel
theorem dX5_spread_8 : decode cX5_spread 8 = .ok (.iload 4, 2) := by decide +kernel
theorem dX5_spread_10 : decode cX5_spread 10 = .ok (.if_icmp .ge 85, 3) := by decide +kernel
theorem dX5_spread_13 : decode cX5_spread 13 = .ok (.aload_n 3, 1) := by decide +kernel
theorem dX5_spread_14 : decode cX5_spread 14 = .ok (.iload 5, 2) := by decide +kernel
theorem dX5_spread_16 : decode cX5_spread 16 = .ok (.iload_n 2, 1) := by decide +kernel
theorem dX5_spread_17 : decode cX5_spread 17 = .ok (.invokevirtual 57, 3) := by decide +kernel
theorem dX5_spread_20 : decode cX5_spread 20 = .ok (.istore 5, 2) := by decide +kernel
theorem dX5_spread_22 : decode cX5_spread 22 = .ok (.aload_n 0, 1) := by decide +kernel
theorem dX5_spread_23 : decode cX5_spread 23 = .ok (.getfield 9, 3) := by decide +kernel
theorem dX5_spread_26 : decode cX5_spread 26 = .ok (.iload 5, 2) := by decide +kernel
theorem dX5_spread_28 : decode cX5_spread 28 = .ok (.iaload, 1) := by decide +kernel
theorem dX5_spread_29 : decode cX5_spread 29 = .ok (.iconst (-1), 1) := by decide +kernel
theorem dX5_spread_30 : decode cX5_spread 30 = .ok (.if_icmp .ne 42, 3) := by decide +kernel
theorem dX5_spread_33 : decode cX5_spread 33 = .ok (.aload_n 0, 1) := by decide +kernel
theorem dX5_spread_34 : decode cX5_spread 34 = .ok (.getfield 9, 3) := by decide +kernel
theorem dX5_spread_37 : decode cX5_spread 37 = .ok (.iload 5, 2) := by decide +kernel
theorem dX5_spread_39 : decode cX5_spread 39 = .ok (.aload_n 0, 1) := by decide +kernel
theorem dX5_spread_40 : decode cX5_spread 40 = .ok (.getfield 9, 3) := by decide +kernel
theorem dX5_spread_43 : decode cX5_spread 43 = .ok (.iload_n 1, 1) := by decide +kernel
theorem dX5_spread_44 : decode cX5_spread 44 = .ok (.iaload, 1) := by decide +kernel
theorem dX5_spread_45 : decode cX5_spread 45 = .ok (.iconst 1, 1) := by decide +kernel
theorem dX5_spread_46 : decode cX5_spread 46 = .ok (.iadd, 1) := by decide +kernel
theorem dX5_spread_47 : decode cX5_spread 47 = .ok (.iastore, 1) := by decide +kernel
theorem dX5_spread_48 : decode cX5_spread 48 = .ok (.aload_n 0, 1) := by decide +kernel
theorem dX5_spread_49 : decode cX5_spread 49 = .ok (.getfield 15, 3) := by decide +kernel
theorem dX5_spread_52 : decode cX5_spread 52 = .ok (.aload_n 0, 1) := by decide +kernel
theorem dX5_spread_53 : decode cX5_spread 53 = .ok (.getfield 45, 3) := by decide +kernel
theorem dX5_spread_56 : decode cX5_spread 56 = .ok (.iload 5, 2) := by decide +kernel
theorem dX5_spread_58 : decode cX5_spread 58 = .ok (.iastore, 1) := by decide +kernel
theorem dX5_spread_59 : decode cX5_spread 59 = .ok (.aload_n 0, 1) := by decide +kernel
theorem dX5_spread_60 : decode cX5_spread 60 = .ok (.dup, 1) := by decide +kernel
theorem dX5_spread_61 : decode cX5_spread 61 = .ok (.getfield 45, 3) := by decide +kernel
theorem dX5_spread_64 : decode cX5_spread 64 = .ok (.iconst 1, 1) := by decide +kernel
theorem dX5_spread_65 : decode cX5_spread 65 = .ok (.iadd, 1) := by decide +kernel
theorem dX5_spread_66 : decode cX5_spread 66 = .ok (.putfield 45, 3) := by decide +kernel
theorem dX5_spread_69 : decode cX5_spread 69 = .ok (.goto 20, 3) := by decide +kernel
theorem dX5_spread_72 : decode cX5_spread 72 = .ok (.aload_n 0, 1) := by decide +kernel
theorem dX5_spread_73 : decode cX5_spread 73 = .ok (.getfield 9, 3) := by decide +kernel
theorem dX5_spread_76 : decode cX5_spread 76 = .ok (.iload 5, 2) := by decide +kernel
theorem dX5_spread_78 : decode cX5_spread 78 = .ok (.iaload, 1) := by decide +kernel
theorem dX5_spread_79 : decode cX5_spread 79 = .ok (.aload_n 0, 1) := by decide +kernel
theorem dX5_spread_80 : decode cX5_spread 80 = .ok (.getfield 9, 3) := by decide +kernel
theorem dX5_spread_83 : decode cX5_spread 83 = .ok (.iload_n 1, 1) := by decide +kernel
theorem dX5_spread_84 : decode cX5_spread 84 = .ok (.iaload, 1) := by decide +kernel
theorem dX5_spread_85 : decode cX5_spread 85 = .ok (.if_icmp .gt 4, 3) := by decide +kernel
theorem dX5_spread_88 : decode cX5_spread 88 = .ok (.return_, 1) := by decide +kernel
theorem dX5_spread_89 : decode cX5_spread 89 = .ok (.iinc 6 1, 3) := by decide +kernel
theorem dX5_spread_92 : decode cX5_spread 92 = .ok (.goto (-86), 3) := by decide +kernel
theorem dX5_spread_95 : decode cX5_spread 95 = .ok (.return_, 1) := by decide +kernel
theorem dX5_look_0 : decode cX5_look 0 = .ok (.aload_n 0, 1) := by decide +kernel
theorem dX5_look_1 : decode cX5_look 1 = .ok (.getfield 18, 3) := by decide +kernel
theorem dX5_look_4 : decode cX5_look 4 = .ok (.ifCond .eq 12, 3) := by decide +kernel
theorem dX5_look_7 : decode cX5_look 7 = .ok (.aload_n 0, 1) := by decide +kernel
theorem dX5_look_8 : decode cX5_look 8 = .ok (.getfield 9, 3) := by decide +kernel
theorem dX5_look_11 : decode cX5_look 11 = .ok (.iload_n 1, 1) := by decide +kernel
theorem dX5_look_12 : decode cX5_look 12 = .ok (.iaload, 1) := by decide +kernel
theorem dX5_look_13 : decode cX5_look 13 = .ok (.goto 5, 3) := by decide +kernel
theorem dX5_look_16 : decode cX5_look 16 = .ok (.bipush (-2), 2) := by decide +kernel
theorem dX5_look_18 : decode cX5_look 18 = .ok (.ireturn, 1) := by decide +kernel
set_option maxRecDepth 20000 in
theorem ggX5_having_X5_lowerThan : GoodIn wsX5_having wsX5_lowerThan := goodIn_ca (goodIn_r _ [9, 2, 3, 4, 10, 11, 12, 13, 14, 15] (by decide +kernel) (by decide +kernel)) (goodIn_sub (fun _ h => List.mem_cons_of_mem _ (List.mem_append_right _ h)) (by decide +kernel))
set_option maxRecDepth 20000 in
theorem gX5_having_X5_lowerThan : GoodIn wsX5_having (wsV RX5 61 RX5 yX5_lowerThan wsX5_lowerThan) := goodIn_app (goodIn_of _ (by decide +kernel)) ggX5_having_X5_lowerThan
theorem dX5_having_0 : decode cX5_having 0 = .ok (.iload_n 1, 1) := by decide +kernel
theorem dX5_having_1 : decode cX5_having 1 = .ok (.iconst (-1), 1) := by decide +kernel
theorem dX5_having_2 : decode cX5_having 2 = .ok (.if_icmp .ne 13, 3) := by decide +kernel
theorem dX5_having_5 : decode cX5_having 5 = .ok (.aload_n 0, 1) := by decide +kernel
theorem dX5_having_6 : decode cX5_having 6 = .ok (.getfield 32, 3) := by decide +kernel
theorem dX5_having_9 : decode cX5_having 9 = .ok (.aload_n 0, 1) := by decide +kernel
theorem dX5_having_10 : decode cX5_having 10 = .ok (.getfield 45, 3) := by decide +kernel
theorem dX5_having_13 : decode cX5_having 13 = .ok (.isub, 1) := by decide +kernel
theorem dX5_having_14 : decode cX5_having 14 = .ok (.ireturn, 1) := by decide +kernel
theorem dX5_having_15 : decode cX5_having 15 = .ok (.iload_n 1, 1) := by decide +kernel
theorem dX5_having_16 : decode cX5_having 16 = .ok (.ifCond .lt 23, 3) := by decide +kernel
theorem dX5_having_19 : decode cX5_having 19 = .ok (.iload_n 1, 1) := by decide +kernel
theorem dX5_having_20 : decode cX5_having 20 = .ok (.aload_n 0, 1) := by decide +kernel
theorem dX5_having_21 : decode cX5_having 21 = .ok (.getfield 9, 3) := by decide +kernel
theorem dX5_having_24 : decode cX5_having 24 = .ok (.aload_n 0, 1) := by decide +kernel
theorem dX5_having_25 : decode cX5_having 25 = .ok (.getfield 15, 3) := by decide +kernel
theorem dX5_having_28 : decode cX5_having 28 = .ok (.aload_n 0, 1) := by decide +kernel
theorem dX5_having_29 : decode cX5_having 29 = .ok (.getfield 45, 3) := by decide +kernel
theorem dX5_having_32 : decode cX5_having 32 = .ok (.iconst 1, 1) := by decide +kernel
theorem dX5_having_33 : decode cX5_having 33 = .ok (.isub, 1) := by decide +kernel
theorem dX5_having_34 : decode cX5_having 34 = .ok (.iaload, 1) := by decide +kernel
theorem dX5_having_35 : decode cX5_having 35 = .ok (.iaload, 1) := by decide +kernel
theorem dX5_having_36 : decode cX5_having 36 = .ok (.if_icmp .le 5, 3) := by decide +kernel
theorem dX5_having_39 : decode cX5_having 39 = .ok (.iconst 0, 1) := by decide +kernel
theorem dX5_having_40 : decode cX5_having 40 = .ok (.ireturn, 1) := by decide +kernel
theorem dX5_having_41 : decode cX5_having 41 = .ok (.aload_n 0, 1) := by decide +kernel
theorem dX5_having_42 : decode cX5_having 42 = .ok (.iload_n 1, 1) := by decide +kernel
theorem dX5_having_43 : decode cX5_having 43 = .ok (.iconst 1, 1) := by decide +kernel
theorem dX5_having_44 : decode cX5_having 44 = .ok (.iadd, 1) := by decide +kernel
theorem dX5_having_45 : decode cX5_having 45 = .ok (.invokevirtual 61, 3) := by decide +kernel
theorem dX5_having_48 : decode cX5_having 48 = .ok (.aload_n 0, 1) := by decide +kernel
theorem dX5_having_49 : decode cX5_having 49 = .ok (.iload_n 1, 1) := by decide +kernel
theorem dX5_having_50 : decode cX5_having 50 = .ok (.invokevirtual 61, 3) := by decide +kernel
theorem dX5_having_53 : decode cX5_having 53 = .ok (.isub, 1) := by decide +kernel
theorem dX5_having_54 : decode cX5_having 54 = .ok (.ireturn, 1) := by decide +kernel
theorem dX5_lowerThan_0 : decode cX5_lowerThan 0 = .ok (.iconst 0, 1) := by decide +kernel
theorem dX5_lowerThan_1 : decode cX5_lowerThan 1 = .ok (.istore_n 2, 1) := by decide +kernel
theorem dX5_lowerThan_2 : decode cX5_lowerThan 2 = .ok (.aload_n 0, 1) := by decide +kernel
theorem dX5_lowerThan_3 : decode cX5_lowerThan 3 = .ok (.getfield 45, 3) := by decide +kernel
theorem dX5_lowerThan_6 : decode cX5_lowerThan 6 = .ok (.istore_n 3, 1) := by decide +kernel
theorem dX5_lowerThan_7 : decode cX5_lowerThan 7 = .ok (.iconst 0, 1) := by decide +kernel
theorem dX5_lowerThan_8 : decode cX5_lowerThan 8 = .ok (.istore 4, 2) := by decide +kernel
theorem dX5_lowerThan_10 : decode cX5_lowerThan 10 = .ok (.iload 4, 2) := by decide +kernel
theorem dX5_lowerThan_12 : decode cX5_lowerThan 12 = .ok (.bipush 32, 2) := by decide +kernel
theorem dX5_lowerThan_14 : decode cX5_lowerThan 14 = .ok (.if_icmp .ge 48, 3) := by decide +kernel
theorem dX5_lowerThan_17 : decode cX5_lowerThan 17 = .ok (.iload_n 2, 1) := by decide +kernel
theorem dX5_lowerThan_18 : decode cX5_lowerThan 18 = .ok (.iload_n 3, 1) := by decide +kernel
theorem dX5_lowerThan_19 : decode cX5_lowerThan 19 = .ok (.if_icmp .ge 43, 3) := by decide +kernel
theorem dX5_lowerThan_22 : decode cX5_lowerThan 22 = .ok (.iload_n 2, 1) := by decide +kernel
theorem dX5_lowerThan_23 : decode cX5_lowerThan 23 = .ok (.iload_n 3, 1) := by decide +kernel
theorem dX5_lowerThan_24 : decode cX5_lowerThan 24 = .ok (.iadd, 1) := by decide +kernel
theorem dX5_lowerThan_25 : decode cX5_lowerThan 25 = .ok (.iconst 2, 1) := by decide +kernel
theorem dX5_lowerThan_26 : decode cX5_lowerThan 26 = .ok (.idiv, 1) := by decide +kernel
theorem dX5_lowerThan_27 : decode cX5_lowerThan 27 = .ok (.istore 5, 2) := by decide +kernel
theorem dX5_lowerThan_29 : decode cX5_lowerThan 29 = .ok (.aload_n 0, 1) := by decide +kernel
theorem dX5_lowerThan_30 : decode cX5_lowerThan 30 = .ok (.getfield 9, 3) := by decide +kernel
theorem dX5_lowerThan_33 : decode cX5_lowerThan 33 = .ok (.aload_n 0, 1) := by decide +kernel
theorem dX5_lowerThan_34 : decode cX5_lowerThan 34 = .ok (.getfield 15, 3) := by decide +kernel
theorem dX5_lowerThan_37 : decode cX5_lowerThan 37 = .ok (.iload 5, 2) := by decide +kernel
theorem dX5_lowerThan_39 : decode cX5_lowerThan 39 = .ok (.iaload, 1) := by decide +kernel
theorem dX5_lowerThan_40 : decode cX5_lowerThan 40 = .ok (.iaload, 1) := by decide +kernel
theorem dX5_lowerThan_41 : decode cX5_lowerThan 41 = .ok (.iload_n 1, 1) := by decide +kernel
theorem dX5_lowerThan_42 : decode cX5_lowerThan 42 = .ok (.if_icmp .ge 11, 3) := by decide +kernel
theorem dX5_lowerThan_45 : decode cX5_lowerThan 45 = .ok (.iload 5, 2) := by decide +kernel
theorem dX5_lowerThan_47 : decode cX5_lowerThan 47 = .ok (.iconst 1, 1) := by decide +kernel
theorem dX5_lowerThan_48 : decode cX5_lowerThan 48 = .ok (.iadd, 1) := by decide +kernel
theorem dX5_lowerThan_49 : decode cX5_lowerThan 49 = .ok (.istore_n 2, 1) := by decide +kernel
theorem dX5_lowerThan_50 : decode cX5_lowerThan 50 = .ok (.goto 6, 3) := by decide +kernel
theorem dX5_lowerThan_53 : decode cX5_lowerThan 53 = .ok (.iload 5, 2) := by decide +kernel
theorem dX5_lowerThan_55 : decode cX5_lowerThan 55 = .ok (.istore_n 3, 1) := by decide +kernel
theorem dX5_lowerThan_56 : decode cX5_lowerThan 56 = .ok (.iinc 4 1, 3) := by decide +kernel
theorem dX5_lowerThan_59 : decode cX5_lowerThan 59 = .ok (.goto (-49), 3) := by decide +kernel
theorem dX5_lowerThan_62 : decode cX5_lowerThan 62 = .ok (.iload_n 2, 1) := by decide +kernel
theorem dX5_lowerThan_63 : decode cX5_lowerThan 63 = .ok (.ireturn, 1) := by decide +kernel
set_option maxRecDepth 20000 in
theorem ggX5_word_X5_twoBits : GoodIn wsX5_word wsX5_twoBits := goodIn_ca (goodIn_r _ [6, 7, 16, 17, 18, 19, 20, 21] (by decide +kernel) (by decide +kernel)) (goodIn_sub (fun _ h => List.mem_cons_of_mem _ (List.mem_append_right _ h)) (by decide +kernel))
set_option maxRecDepth 20000 in
theorem gX5_word_X5_twoBits : GoodIn wsX5_word (wsV RX5 65 RX5 yX5_twoBits wsX5_twoBits) := goodIn_app (goodIn_of _ (by decide +kernel)) ggX5_word_X5_twoBits
set_option maxRecDepth 20000 in
theorem ggX5_word_X5_fourBits : GoodIn wsX5_word wsX5_fourBits := goodIn_ca (goodIn_r _ [11, 7, 12, 13, 14, 15, 16, 17, 18, 19, 20, 21] (by decide +kernel) (by decide +kernel)) (goodIn_sub (fun _ h => List.mem_cons_of_mem _ (List.mem_append_right _ h)) (by decide +kernel))
set_option maxRecDepth 20000 in
theorem gX5_word_X5_fourBits : GoodIn wsX5_word (wsV RX5 68 RX5 yX5_fourBits wsX5_fourBits) := goodIn_app (goodIn_of _ (by decide +kernel)) ggX5_word_X5_fourBits
theorem dX5_word_0 : decode cX5_word 0 = .ok (.iload_n 1, 1) := by decide +kernel
theorem dX5_word_1 : decode cX5_word 1 = .ok (.iconst 2, 1) := by decide +kernel
theorem dX5_word_2 : decode cX5_word 2 = .ok (.if_icmp .ne 8, 3) := by decide +kernel
theorem dX5_word_5 : decode cX5_word 5 = .ok (.bipush 32, 2) := by decide +kernel
theorem dX5_word_7 : decode cX5_word 7 = .ok (.goto 5, 3) := by decide +kernel
theorem dX5_word_10 : decode cX5_word 10 = .ok (.bipush 16, 2) := by decide +kernel
theorem dX5_word_12 : decode cX5_word 12 = .ok (.istore_n 3, 1) := by decide +kernel
theorem dX5_word_13 : decode cX5_word 13 = .ok (.iload_n 2, 1) := by decide +kernel
theorem dX5_word_14 : decode cX5_word 14 = .ok (.ifCond .lt 15, 3) := by decide +kernel
theorem dX5_word_17 : decode cX5_word 17 = .ok (.iload_n 2, 1) := by decide +kernel
theorem dX5_word_18 : decode cX5_word 18 = .ok (.aload_n 0, 1) := by decide +kernel
theorem dX5_word_19 : decode cX5_word 19 = .ok (.getfield 32, 3) := by decide +kernel
theorem dX5_word_22 : decode cX5_word 22 = .ok (.iconst 1, 1) := by decide +kernel
theorem dX5_word_23 : decode cX5_word 23 = .ok (.isub, 1) := by decide +kernel
theorem dX5_word_24 : decode cX5_word 24 = .ok (.iload_n 3, 1) := by decide +kernel
theorem dX5_word_25 : decode cX5_word 25 = .ok (.idiv, 1) := by decide +kernel
theorem dX5_word_26 : decode cX5_word 26 = .ok (.if_icmp .le 5, 3) := by decide +kernel
theorem dX5_word_29 : decode cX5_word 29 = .ok (.lconst 0, 1) := by decide +kernel
theorem dX5_word_30 : decode cX5_word 30 = .ok (.lreturn, 1) := by decide +kernel
theorem dX5_word_31 : decode cX5_word 31 = .ok (.lconst 0, 1) := by decide +kernel
theorem dX5_word_32 : decode cX5_word 32 = .ok (.lstore 4, 2) := by decide +kernel
theorem dX5_word_34 : decode cX5_word 34 = .ok (.iload_n 2, 1) := by decide +kernel
theorem dX5_word_35 : decode cX5_word 35 = .ok (.iload_n 3, 1) := by decide +kernel
theorem dX5_word_36 : decode cX5_word 36 = .ok (.imul, 1) := by decide +kernel
theorem dX5_word_37 : decode cX5_word 37 = .ok (.istore 6, 2) := by decide +kernel
theorem dX5_word_39 : decode cX5_word 39 = .ok (.iconst 0, 1) := by decide +kernel
theorem dX5_word_40 : decode cX5_word 40 = .ok (.istore 7, 2) := by decide +kernel
theorem dX5_word_42 : decode cX5_word 42 = .ok (.iload 7, 2) := by decide +kernel
theorem dX5_word_44 : decode cX5_word 44 = .ok (.iload_n 3, 1) := by decide +kernel
theorem dX5_word_45 : decode cX5_word 45 = .ok (.if_icmp .ge 63, 3) := by decide +kernel
theorem dX5_word_48 : decode cX5_word 48 = .ok (.iload 6, 2) := by decide +kernel
theorem dX5_word_50 : decode cX5_word 50 = .ok (.iload 7, 2) := by decide +kernel
theorem dX5_word_52 : decode cX5_word 52 = .ok (.iadd, 1) := by decide +kernel
theorem dX5_word_53 : decode cX5_word 53 = .ok (.aload_n 0, 1) := by decide +kernel
theorem dX5_word_54 : decode cX5_word 54 = .ok (.getfield 32, 3) := by decide +kernel
theorem dX5_word_57 : decode cX5_word 57 = .ok (.if_icmp .ge 51, 3) := by decide +kernel
theorem dX5_word_60 : decode cX5_word 60 = .ok (.iload_n 1, 1) := by decide +kernel
theorem dX5_word_61 : decode cX5_word 61 = .ok (.iconst 2, 1) := by decide +kernel
theorem dX5_word_62 : decode cX5_word 62 = .ok (.if_icmp .ne 16, 3) := by decide +kernel
theorem dX5_word_65 : decode cX5_word 65 = .ok (.aload_n 0, 1) := by decide +kernel
theorem dX5_word_66 : decode cX5_word 66 = .ok (.iload 6, 2) := by decide +kernel
theorem dX5_word_68 : decode cX5_word 68 = .ok (.iload 7, 2) := by decide +kernel
theorem dX5_word_70 : decode cX5_word 70 = .ok (.iadd, 1) := by decide +kernel
theorem dX5_word_71 : decode cX5_word 71 = .ok (.invokevirtual 65, 3) := by decide +kernel
theorem dX5_word_74 : decode cX5_word 74 = .ok (.i2l, 1) := by decide +kernel
theorem dX5_word_75 : decode cX5_word 75 = .ok (.goto 13, 3) := by decide +kernel
theorem dX5_word_78 : decode cX5_word 78 = .ok (.aload_n 0, 1) := by decide +kernel
theorem dX5_word_79 : decode cX5_word 79 = .ok (.iload 6, 2) := by decide +kernel
theorem dX5_word_81 : decode cX5_word 81 = .ok (.iload 7, 2) := by decide +kernel
theorem dX5_word_83 : decode cX5_word 83 = .ok (.iadd, 1) := by decide +kernel
theorem dX5_word_84 : decode cX5_word 84 = .ok (.invokevirtual 68, 3) := by decide +kernel
theorem dX5_word_87 : decode cX5_word 87 = .ok (.i2l, 1) := by decide +kernel
theorem dX5_word_88 : decode cX5_word 88 = .ok (.lstore 8, 2) := by decide +kernel
theorem dX5_word_90 : decode cX5_word 90 = .ok (.lload 4, 2) := by decide +kernel
theorem dX5_word_92 : decode cX5_word 92 = .ok (.lload 8, 2) := by decide +kernel
theorem dX5_word_94 : decode cX5_word 94 = .ok (.iload 7, 2) := by decide +kernel
theorem dX5_word_96 : decode cX5_word 96 = .ok (.iload_n 1, 1) := by decide +kernel
theorem dX5_word_97 : decode cX5_word 97 = .ok (.imul, 1) := by decide +kernel
theorem dX5_word_98 : decode cX5_word 98 = .ok (.lshl, 1) := by decide +kernel
theorem dX5_word_99 : decode cX5_word 99 = .ok (.lor, 1) := by decide +kernel
theorem dX5_word_100 : decode cX5_word 100 = .ok (.lstore 4, 2) := by decide +kernel
theorem dX5_word_102 : decode cX5_word 102 = .ok (.iinc 7 1, 3) := by decide +kernel
theorem dX5_word_105 : decode cX5_word 105 = .ok (.goto (-63), 3) := by decide +kernel
theorem dX5_word_108 : decode cX5_word 108 = .ok (.lload 4, 2) := by decide +kernel
theorem dX5_word_110 : decode cX5_word 110 = .ok (.lreturn, 1) := by decide +kernel
theorem dX5_twoBits_0 : decode cX5_twoBits 0 = .ok (.aload_n 0, 1) := by decide +kernel
theorem dX5_twoBits_1 : decode cX5_twoBits 1 = .ok (.getfield 9, 3) := by decide +kernel
theorem dX5_twoBits_4 : decode cX5_twoBits 4 = .ok (.iload_n 1, 1) := by decide +kernel
theorem dX5_twoBits_5 : decode cX5_twoBits 5 = .ok (.iaload, 1) := by decide +kernel
theorem dX5_twoBits_6 : decode cX5_twoBits 6 = .ok (.istore_n 2, 1) := by decide +kernel
theorem dX5_twoBits_7 : decode cX5_twoBits 7 = .ok (.iload_n 2, 1) := by decide +kernel
theorem dX5_twoBits_8 : decode cX5_twoBits 8 = .ok (.iconst (-1), 1) := by decide +kernel
theorem dX5_twoBits_9 : decode cX5_twoBits 9 = .ok (.if_icmp .ne 7, 3) := by decide +kernel
theorem dX5_twoBits_12 : decode cX5_twoBits 12 = .ok (.iconst 3, 1) := by decide +kernel
theorem dX5_twoBits_13 : decode cX5_twoBits 13 = .ok (.goto 6, 3) := by decide +kernel
theorem dX5_twoBits_16 : decode cX5_twoBits 16 = .ok (.iload_n 2, 1) := by decide +kernel
theorem dX5_twoBits_17 : decode cX5_twoBits 17 = .ok (.iconst 3, 1) := by decide +kernel
theorem dX5_twoBits_18 : decode cX5_twoBits 18 = .ok (.irem, 1) := by decide +kernel
theorem dX5_twoBits_19 : decode cX5_twoBits 19 = .ok (.ireturn, 1) := by decide +kernel
theorem dX5_fourBits_0 : decode cX5_fourBits 0 = .ok (.aload_n 0, 1) := by decide +kernel
theorem dX5_fourBits_1 : decode cX5_fourBits 1 = .ok (.getfield 9, 3) := by decide +kernel
theorem dX5_fourBits_4 : decode cX5_fourBits 4 = .ok (.iload_n 1, 1) := by decide +kernel
theorem dX5_fourBits_5 : decode cX5_fourBits 5 = .ok (.iaload, 1) := by decide +kernel
theorem dX5_fourBits_6 : decode cX5_fourBits 6 = .ok (.istore_n 2, 1) := by decide +kernel
theorem dX5_fourBits_7 : decode cX5_fourBits 7 = .ok (.iload_n 2, 1) := by decide +kernel
theorem dX5_fourBits_8 : decode cX5_fourBits 8 = .ok (.iconst (-1), 1) := by decide +kernel
theorem dX5_fourBits_9 : decode cX5_fourBits 9 = .ok (.if_icmp .ne 8, 3) := by decide +kernel
theorem dX5_fourBits_12 : decode cX5_fourBits 12 = .ok (.bipush 15, 2) := by decide +kernel
theorem dX5_fourBits_14 : decode cX5_fourBits 14 = .ok (.goto 9, 3) := by decide +kernel
theorem dX5_fourBits_17 : decode cX5_fourBits 17 = .ok (.iload_n 2, 1) := by decide +kernel
theorem dX5_fourBits_18 : decode cX5_fourBits 18 = .ok (.bipush 14, 2) := by decide +kernel
theorem dX5_fourBits_20 : decode cX5_fourBits 20 = .ok (.invokestatic 71, 3) := by decide +kernel
theorem dX5_fourBits_23 : decode cX5_fourBits 23 = .ok (.ireturn, 1) := by decide +kernel
theorem dX5_bodyBytes_0 : decode cX5_bodyBytes 0 = .ok (.aload_n 0, 1) := by decide +kernel
theorem dX5_bodyBytes_1 : decode cX5_bodyBytes 1 = .ok (.getfield 32, 3) := by decide +kernel
theorem dX5_bodyBytes_4 : decode cX5_bodyBytes 4 = .ok (.iconst 1, 1) := by decide +kernel
theorem dX5_bodyBytes_5 : decode cX5_bodyBytes 5 = .ok (.iadd, 1) := by decide +kernel
theorem dX5_bodyBytes_6 : decode cX5_bodyBytes 6 = .ok (.iconst 2, 1) := by decide +kernel
theorem dX5_bodyBytes_7 : decode cX5_bodyBytes 7 = .ok (.idiv, 1) := by decide +kernel
theorem dX5_bodyBytes_8 : decode cX5_bodyBytes 8 = .ok (.ireturn, 1) := by decide +kernel
set_option maxRecDepth 20000 in
theorem ggX5_bodyByte_X5_fourBits : GoodIn wsX5_bodyByte wsX5_fourBits := goodIn_ca (goodIn_r _ [6, 7, 8, 9, 10, 11, 12, 13, 14, 15, 16, 17] (by decide +kernel) (by decide +kernel)) (goodIn_sub (fun _ h => List.mem_cons_of_mem _ (List.mem_append_right _ h)) (by decide +kernel))
set_option maxRecDepth 20000 in
theorem gX5_bodyByte_X5_fourBits : GoodIn wsX5_bodyByte (wsV RX5 68 RX5 yX5_fourBits wsX5_fourBits) := goodIn_app (goodIn_of _ (by decide +kernel)) ggX5_bodyByte_X5_fourBits
theorem dX5_bodyByte_0 : decode cX5_bodyByte 0 = .ok (.iconst 2, 1) := by decide +kernel
theorem dX5_bodyByte_1 : decode cX5_bodyByte 1 = .ok (.iload_n 1, 1) := by decide +kernel
theorem dX5_bodyByte_2 : decode cX5_bodyByte 2 = .ok (.imul, 1) := by decide +kernel
theorem dX5_bodyByte_3 : decode cX5_bodyByte 3 = .ok (.istore_n 2, 1) := by decide +kernel
theorem dX5_bodyByte_4 : decode cX5_bodyByte 4 = .ok (.iload_n 2, 1) := by decide +kernel
theorem dX5_bodyByte_5 : decode cX5_bodyByte 5 = .ok (.iconst 1, 1) := by decide +kernel
theorem dX5_bodyByte_6 : decode cX5_bodyByte 6 = .ok (.iadd, 1) := by decide +kernel
theorem dX5_bodyByte_7 : decode cX5_bodyByte 7 = .ok (.aload_n 0, 1) := by decide +kernel
theorem dX5_bodyByte_8 : decode cX5_bodyByte 8 = .ok (.getfield 32, 3) := by decide +kernel
theorem dX5_bodyByte_11 : decode cX5_bodyByte 11 = .ok (.if_icmp .ge 13, 3) := by decide +kernel
theorem dX5_bodyByte_14 : decode cX5_bodyByte 14 = .ok (.aload_n 0, 1) := by decide +kernel
theorem dX5_bodyByte_15 : decode cX5_bodyByte 15 = .ok (.iload_n 2, 1) := by decide +kernel
theorem dX5_bodyByte_16 : decode cX5_bodyByte 16 = .ok (.iconst 1, 1) := by decide +kernel
theorem dX5_bodyByte_17 : decode cX5_bodyByte 17 = .ok (.iadd, 1) := by decide +kernel
theorem dX5_bodyByte_18 : decode cX5_bodyByte 18 = .ok (.invokevirtual 68, 3) := by decide +kernel
theorem dX5_bodyByte_21 : decode cX5_bodyByte 21 = .ok (.goto 4, 3) := by decide +kernel
theorem dX5_bodyByte_24 : decode cX5_bodyByte 24 = .ok (.iconst 0, 1) := by decide +kernel
theorem dX5_bodyByte_25 : decode cX5_bodyByte 25 = .ok (.istore_n 3, 1) := by decide +kernel
theorem dX5_bodyByte_26 : decode cX5_bodyByte 26 = .ok (.aload_n 0, 1) := by decide +kernel
theorem dX5_bodyByte_27 : decode cX5_bodyByte 27 = .ok (.iload_n 2, 1) := by decide +kernel
theorem dX5_bodyByte_28 : decode cX5_bodyByte 28 = .ok (.invokevirtual 68, 3) := by decide +kernel
theorem dX5_bodyByte_31 : decode cX5_bodyByte 31 = .ok (.bipush 16, 2) := by decide +kernel
theorem dX5_bodyByte_33 : decode cX5_bodyByte 33 = .ok (.iload_n 3, 1) := by decide +kernel
theorem dX5_bodyByte_34 : decode cX5_bodyByte 34 = .ok (.imul, 1) := by decide +kernel
theorem dX5_bodyByte_35 : decode cX5_bodyByte 35 = .ok (.iadd, 1) := by decide +kernel
theorem dX5_bodyByte_36 : decode cX5_bodyByte 36 = .ok (.ireturn, 1) := by decide +kernel
set_option maxRecDepth 20000 in
theorem ggX6_init_X0_init : GoodIn wsX6_init wsX0_init := goodIn_ca (goodIn_r _ [46, 47, 2, 3, 48, 49, 18, 50, 51, 52, 53, 54, 55, 56, 112, 113, 114] (by decide +kernel) (by decide +kernel)) (goodIn_sub (fun _ h => List.mem_cons_of_mem _ (List.mem_append_right _ h)) (by decide +kernel))
set_option maxRecDepth 20000 in
theorem gX6_init_X0_init : GoodIn wsX6_init (wsX0_init) := ggX6_init_X0_init
set_option maxRecDepth 20000 in
theorem ggX6_init_X1_init : GoodIn wsX6_init wsX1_init := goodIn_r _ [59, 60, 2, 3, 61, 62, 63, 64, 18, 65, 66, 67, 68, 115, 116, 117, 118, 119, 120, 121, 122] (by decide +kernel) (by decide +kernel)
set_option maxRecDepth 20000 in
theorem gX6_init_X1_init : GoodIn wsX6_init (wsX1_init) := ggX6_init_X1_init
set_option maxRecDepth 20000 in
theorem ggX6_init_X3_init : GoodIn wsX6_init wsX3_init := goodIn_ca (goodIn_r _ [71, 72, 2, 3, 73, 18, 74, 51, 52, 53, 54, 55, 56, 123, 124] (by decide +kernel) (by decide +kernel)) (goodIn_sub (fun _ h => List.mem_cons_of_mem _ (List.mem_append_right _ h)) (by decide +kernel))
set_option maxRecDepth 20000 in
theorem gX6_init_X3_init : GoodIn wsX6_init (wsX3_init) := ggX6_init_X3_init
set_option maxRecDepth 20000 in
theorem ggX6_init_X4_init : GoodIn wsX6_init wsX4_init := goodIn_r _ [77, 78, 2, 3, 79, 80, 18, 81, 82, 83, 125, 126, 127, 128, 129, 130] (by decide +kernel) (by decide +kernel)
set_option maxRecDepth 20000 in
theorem gX6_init_X4_init : GoodIn wsX6_init (wsX4_init) := ggX6_init_X4_init
set_option maxRecDepth 20000 in
theorem ggX6_init_X5_init : GoodIn wsX6_init wsX5_init := goodIn_r _ [86, 87, 2, 3, 18, 88, 89, 131, 132, 133, 134, 135, 136] (by decide +kernel) (by decide +kernel)
set_option maxRecDepth 20000 in
theorem gX6_init_X5_init : GoodIn wsX6_init (wsX5_init) := ggX6_init_X5_init
set_option maxRecDepth 20000 in
theorem ggX6_init_X2_init : GoodIn wsX6_init wsX2_init := goodIn_r _ [92, 93, 2, 3, 18, 94, 95, 96, 137, 138, 139, 140, 141, 142, 143, 144] (by decide +kernel) (by decide +kernel)
set_option maxRecDepth 20000 in
theorem gX6_init_X2_init : GoodIn wsX6_init (wsX2_init) := ggX6_init_X2_init
theorem dX6_init_0 : decode cX6_init 0 = .ok (.aload_n 0, 1) := by decide +kernel
theorem dX6_init_1 : decode cX6_init 1 = .ok (.invokespecial 1, 3) := by decide +kernel
theorem dX6_init_4 : decode cX6_init 4 = .ok (.aload_n 0, 1) := by decide +kernel
theorem dX6_init_5 : decode cX6_init 5 = .ok (.iconst 2, 1) := by decide +kernel
theorem dX6_init_6 : decode cX6_init 6 = .ok (.bipush 8, 2) := by decide +kernel
theorem dX6_init_8 : decode cX6_init 8 = .ok (.iload_n 1, 1) := by decide +kernel
theorem dX6_init_9 : decode cX6_init 9 = .ok (.invokestatic 7, 3) := by decide +kernel
theorem dX6_init_12 : decode cX6_init 12 = .ok (.invokestatic 13, 3) := by decide +kernel
theorem dX6_init_15 : decode cX6_init 15 = .ok (.putfield 16, 3) := by decide +kernel
theorem dX6_init_18 : decode cX6_init 18 = .ok (.aload_n 0, 1) := by decide +kernel
theorem dX6_init_19 : decode cX6_init 19 = .ok (.iconst 1, 1) := by decide +kernel
theorem dX6_init_20 : decode cX6_init 20 = .ok (.iconst 3, 1) := by decide +kernel
theorem dX6_init_21 : decode cX6_init 21 = .ok (.iload_n 2, 1) := by decide +kernel
theorem dX6_init_22 : decode cX6_init 22 = .ok (.invokestatic 7, 3) := by decide +kernel
theorem dX6_init_25 : decode cX6_init 25 = .ok (.invokestatic 13, 3) := by decide +kernel
theorem dX6_init_28 : decode cX6_init 28 = .ok (.putfield 22, 3) := by decide +kernel
theorem dX6_init_31 : decode cX6_init 31 = .ok (.aload_n 0, 1) := by decide +kernel
theorem dX6_init_32 : decode cX6_init 32 = .ok (.bipush 6, 2) := by decide +kernel
theorem dX6_init_34 : decode cX6_init 34 = .ok (.anewarray 25, 3) := by decide +kernel
theorem dX6_init_37 : decode cX6_init 37 = .ok (.putfield 27, 3) := by decide +kernel
theorem dX6_init_40 : decode cX6_init 40 = .ok (.iconst 0, 1) := by decide +kernel
theorem dX6_init_41 : decode cX6_init 41 = .ok (.istore_n 3, 1) := by decide +kernel
theorem dX6_init_42 : decode cX6_init 42 = .ok (.iload_n 3, 1) := by decide +kernel
theorem dX6_init_43 : decode cX6_init 43 = .ok (.bipush 6, 2) := by decide +kernel
theorem dX6_init_45 : decode cX6_init 45 = .ok (.if_icmp .ge 30, 3) := by decide +kernel
theorem dX6_init_48 : decode cX6_init 48 = .ok (.aload_n 0, 1) := by decide +kernel
theorem dX6_init_49 : decode cX6_init 49 = .ok (.getfield 27, 3) := by decide +kernel
theorem dX6_init_52 : decode cX6_init 52 = .ok (.iload_n 3, 1) := by decide +kernel
theorem dX6_init_53 : decode cX6_init 53 = .ok (.new 25, 3) := by decide +kernel
theorem dX6_init_56 : decode cX6_init 56 = .ok (.dup, 1) := by decide +kernel
theorem dX6_init_57 : decode cX6_init 57 = .ok (.aload_n 0, 1) := by decide +kernel
theorem dX6_init_58 : decode cX6_init 58 = .ok (.getfield 16, 3) := by decide +kernel
theorem dX6_init_61 : decode cX6_init 61 = .ok (.aload_n 0, 1) := by decide +kernel
theorem dX6_init_62 : decode cX6_init 62 = .ok (.getfield 22, 3) := by decide +kernel
theorem dX6_init_65 : decode cX6_init 65 = .ok (.invokespecial 31, 3) := by decide +kernel
theorem dX6_init_68 : decode cX6_init 68 = .ok (.aastore, 1) := by decide +kernel
theorem dX6_init_69 : decode cX6_init 69 = .ok (.iinc 3 1, 3) := by decide +kernel
theorem dX6_init_72 : decode cX6_init 72 = .ok (.goto (-30), 3) := by decide +kernel
theorem dX6_init_75 : decode cX6_init 75 = .ok (.aload_n 0, 1) := by decide +kernel
theorem dX6_init_76 : decode cX6_init 76 = .ok (.iconst 4, 1) := by decide +kernel
theorem dX6_init_77 : decode cX6_init 77 = .ok (.aload_n 0, 1) := by decide +kernel
theorem dX6_init_78 : decode cX6_init 78 = .ok (.getfield 16, 3) := by decide +kernel
theorem dX6_init_81 : decode cX6_init 81 = .ok (.multianewarray 34 2, 4) := by decide +kernel
theorem dX6_init_85 : decode cX6_init 85 = .ok (.putfield 36, 3) := by decide +kernel
theorem dX6_init_88 : decode cX6_init 88 = .ok (.aload_n 0, 1) := by decide +kernel
theorem dX6_init_89 : decode cX6_init 89 = .ok (.new 39, 3) := by decide +kernel
theorem dX6_init_92 : decode cX6_init 92 = .ok (.dup, 1) := by decide +kernel
theorem dX6_init_93 : decode cX6_init 93 = .ok (.aload_n 0, 1) := by decide +kernel
theorem dX6_init_94 : decode cX6_init 94 = .ok (.getfield 16, 3) := by decide +kernel
theorem dX6_init_97 : decode cX6_init 97 = .ok (.aload_n 0, 1) := by decide +kernel
theorem dX6_init_98 : decode cX6_init 98 = .ok (.getfield 22, 3) := by decide +kernel
theorem dX6_init_101 : decode cX6_init 101 = .ok (.invokespecial 41, 3) := by decide +kernel
theorem dX6_init_104 : decode cX6_init 104 = .ok (.putfield 42, 3) := by decide +kernel
theorem dX6_init_107 : decode cX6_init 107 = .ok (.aload_n 0, 1) := by decide +kernel
theorem dX6_init_108 : decode cX6_init 108 = .ok (.new 46, 3) := by decide +kernel
theorem dX6_init_111 : decode cX6_init 111 = .ok (.dup, 1) := by decide +kernel
theorem dX6_init_112 : decode cX6_init 112 = .ok (.aload_n 0, 1) := by decide +kernel
theorem dX6_init_113 : decode cX6_init 113 = .ok (.getfield 16, 3) := by decide +kernel
theorem dX6_init_116 : decode cX6_init 116 = .ok (.invokespecial 48, 3) := by decide +kernel
theorem dX6_init_119 : decode cX6_init 119 = .ok (.putfield 51, 3) := by decide +kernel
theorem dX6_init_122 : decode cX6_init 122 = .ok (.aload_n 0, 1) := by decide +kernel
theorem dX6_init_123 : decode cX6_init 123 = .ok (.new 46, 3) := by decide +kernel
theorem dX6_init_126 : decode cX6_init 126 = .ok (.dup, 1) := by decide +kernel
theorem dX6_init_127 : decode cX6_init 127 = .ok (.aload_n 0, 1) := by decide +kernel
theorem dX6_init_128 : decode cX6_init 128 = .ok (.getfield 16, 3) := by decide +kernel
theorem dX6_init_131 : decode cX6_init 131 = .ok (.invokespecial 48, 3) := by decide +kernel
theorem dX6_init_134 : decode cX6_init 134 = .ok (.putfield 55, 3) := by decide +kernel
theorem dX6_init_137 : decode cX6_init 137 = .ok (.aload_n 0, 1) := by decide +kernel
theorem dX6_init_138 : decode cX6_init 138 = .ok (.new 46, 3) := by decide +kernel
theorem dX6_init_141 : decode cX6_init 141 = .ok (.dup, 1) := by decide +kernel
theorem dX6_init_142 : decode cX6_init 142 = .ok (.aload_n 0, 1) := by decide +kernel
theorem dX6_init_143 : decode cX6_init 143 = .ok (.getfield 16, 3) := by decide +kernel
theorem dX6_init_146 : decode cX6_init 146 = .ok (.invokespecial 48, 3) := by decide +kernel
theorem dX6_init_149 : decode cX6_init 149 = .ok (.putfield 58, 3) := by decide +kernel
theorem dX6_init_152 : decode cX6_init 152 = .ok (.aload_n 0, 1) := by decide +kernel
theorem dX6_init_153 : decode cX6_init 153 = .ok (.new 25, 3) := by decide +kernel
theorem dX6_init_156 : decode cX6_init 156 = .ok (.dup, 1) := by decide +kernel
theorem dX6_init_157 : decode cX6_init 157 = .ok (.aload_n 0, 1) := by decide +kernel
theorem dX6_init_158 : decode cX6_init 158 = .ok (.getfield 16, 3) := by decide +kernel
theorem dX6_init_161 : decode cX6_init 161 = .ok (.aload_n 0, 1) := by decide +kernel
theorem dX6_init_162 : decode cX6_init 162 = .ok (.getfield 22, 3) := by decide +kernel
theorem dX6_init_165 : decode cX6_init 165 = .ok (.invokespecial 31, 3) := by decide +kernel
theorem dX6_init_168 : decode cX6_init 168 = .ok (.putfield 61, 3) := by decide +kernel
theorem dX6_init_171 : decode cX6_init 171 = .ok (.aload_n 0, 1) := by decide +kernel
theorem dX6_init_172 : decode cX6_init 172 = .ok (.bipush 6, 2) := by decide +kernel
theorem dX6_init_174 : decode cX6_init 174 = .ok (.newarray .int, 2) := by decide +kernel
theorem dX6_init_176 : decode cX6_init 176 = .ok (.putfield 65, 3) := by decide +kernel
theorem dX6_init_179 : decode cX6_init 179 = .ok (.aload_n 0, 1) := by decide +kernel
theorem dX6_init_180 : decode cX6_init 180 = .ok (.new 69, 3) := by decide +kernel
theorem dX6_init_183 : decode cX6_init 183 = .ok (.dup, 1) := by decide +kernel
theorem dX6_init_184 : decode cX6_init 184 = .ok (.invokespecial 71, 3) := by decide +kernel
theorem dX6_init_187 : decode cX6_init 187 = .ok (.putfield 72, 3) := by decide +kernel
theorem dX6_init_190 : decode cX6_init 190 = .ok (.aload_n 0, 1) := by decide +kernel
theorem dX6_init_191 : decode cX6_init 191 = .ok (.new 76, 3) := by decide +kernel
theorem dX6_init_194 : decode cX6_init 194 = .ok (.dup, 1) := by decide +kernel
theorem dX6_init_195 : decode cX6_init 195 = .ok (.invokespecial 78, 3) := by decide +kernel
theorem dX6_init_198 : decode cX6_init 198 = .ok (.putfield 79, 3) := by decide +kernel
theorem dX6_init_201 : decode cX6_init 201 = .ok (.aload_n 0, 1) := by decide +kernel
theorem dX6_init_202 : decode cX6_init 202 = .ok (.new 83, 3) := by decide +kernel
theorem dX6_init_205 : decode cX6_init 205 = .ok (.dup, 1) := by decide +kernel
theorem dX6_init_206 : decode cX6_init 206 = .ok (.invokespecial 85, 3) := by decide +kernel
theorem dX6_init_209 : decode cX6_init 209 = .ok (.putfield 86, 3) := by decide +kernel
theorem dX6_init_212 : decode cX6_init 212 = .ok (.return_, 1) := by decide +kernel
set_option maxRecDepth 20000 in
theorem ggX6_move_X6_movesChanged : GoodIn wsX6_move wsX6_movesChanged := goodIn_r _ [6, 7, 8, 9, 10, 11, 12, 13, 14, 15, 16, 17, 18, 19, 20, 21, 22, 23, 24, 25, 26, 27, 28, 29, 30, 31, 32, 33, 34, 35, 36, 37, 38, 39, 40, 41, 42, 43, 44, 45, 46, 47, 48, 49] (by decide +kernel) (by decide +kernel)
set_option maxRecDepth 20000 in
theorem gX6_move_X6_movesChanged : GoodIn wsX6_move (wsV RX6 93 RX6 yX6_movesChanged wsX6_movesChanged) := goodIn_app (goodIn_of _ (by decide +kernel)) ggX6_move_X6_movesChanged
theorem dX6_move_0 : decode cX6_move 0 = .ok (.aload_n 0, 1) := by decide +kernel
theorem dX6_move_1 : decode cX6_move 1 = .ok (.getfield 90, 3) := by decide +kernel
theorem dX6_move_4 : decode cX6_move 4 = .ok (.bipush 6, 2) := by decide +kernel
theorem dX6_move_6 : decode cX6_move 6 = .ok (.if_icmp .lt 5, 3) := by decide +kernel
theorem dX6_move_9 : decode cX6_move 9 = .ok (.iconst (-1), 1) := by decide +kernel
theorem dX6_move_10 : decode cX6_move 10 = .ok (.ireturn, 1) := by decide +kernel
theorem dX6_move_11 : decode cX6_move 11 = .ok (.aload_n 0, 1) := by decide +kernel
theorem dX6_move_12 : decode cX6_move 12 = .ok (.invokevirtual 93, 3) := by decide +kernel
theorem dX6_move_15 : decode cX6_move 15 = .ok (.aload_n 0, 1) := by decide +kernel
theorem dX6_move_16 : decode cX6_move 16 = .ok (.dup, 1) := by decide +kernel
theorem dX6_move_17 : decode cX6_move 17 = .ok (.getfield 90, 3) := by decide +kernel
theorem dX6_move_20 : decode cX6_move 20 = .ok (.dup_x1, 1) := by decide +kernel
theorem dX6_move_21 : decode cX6_move 21 = .ok (.iconst 1, 1) := by decide +kernel
theorem dX6_move_22 : decode cX6_move 22 = .ok (.iadd, 1) := by decide +kernel
theorem dX6_move_23 : decode cX6_move 23 = .ok (.putfield 90, 3) := by decide +kernel
theorem dX6_move_26 : decode cX6_move 26 = .ok (.ireturn, 1) := by decide +kernel
set_option maxRecDepth 20000 in
theorem ggX6_exchange_X6_requireIndex : GoodIn wsX6_exchange wsX6_requireIndex := goodIn_r _ [7, 8, 9, 10, 50, 51, 52, 53, 54, 55] (by decide +kernel) (by decide +kernel)
set_option maxRecDepth 20000 in
theorem gX6_exchange_X6_requireIndex : GoodIn wsX6_exchange (va_wsS RX6 96 yX6_requireIndex wsX6_requireIndex) := goodIn_app (goodIn_of _ (by decide +kernel)) ggX6_exchange_X6_requireIndex
set_option maxRecDepth 20000 in
theorem ggX6_exchange_X6_swap : GoodIn wsX6_exchange wsX6_swap := goodIn_ca (goodIn_r _ [13] (by decide +kernel) (by decide +kernel)) (goodIn_sub (fun _ h => List.mem_cons_of_mem _ (List.mem_append_right _ h)) (by decide +kernel))
set_option maxRecDepth 20000 in
theorem gX6_exchange_X6_swap : GoodIn wsX6_exchange (va_wsS RX6 102 yX6_swap wsX6_swap) := goodIn_app (goodIn_of _ (by decide +kernel)) ggX6_exchange_X6_swap
set_option maxRecDepth 20000 in
theorem ggX6_exchange_X6_movesChanged : GoodIn wsX6_exchange wsX6_movesChanged := goodIn_r _ [17, 18, 19, 20, 21, 22, 23, 24, 25, 26, 27, 28, 29, 30, 31, 32, 33, 34, 35, 36, 37, 38, 39, 40, 41, 42, 43, 44, 45, 46, 56, 57, 58, 59, 60, 61, 62, 63, 64, 65, 66, 67, 68, 69] (by decide +kernel) (by decide +kernel)
set_option maxRecDepth 20000 in
theorem gX6_exchange_X6_movesChanged : GoodIn wsX6_exchange (wsV RX6 93 RX6 yX6_movesChanged wsX6_movesChanged) := goodIn_app (goodIn_of _ (by decide +kernel)) ggX6_exchange_X6_movesChanged
theorem dX6_exchange_0 : decode cX6_exchange 0 = .ok (.iload_n 1, 1) := by decide +kernel
theorem dX6_exchange_1 : decode cX6_exchange 1 = .ok (.aload_n 0, 1) := by decide +kernel
theorem dX6_exchange_2 : decode cX6_exchange 2 = .ok (.getfield 90, 3) := by decide +kernel
theorem dX6_exchange_5 : decode cX6_exchange 5 = .ok (.invokestatic 96, 3) := by decide +kernel
theorem dX6_exchange_8 : decode cX6_exchange 8 = .ok (.iload_n 2, 1) := by decide +kernel
theorem dX6_exchange_9 : decode cX6_exchange 9 = .ok (.aload_n 0, 1) := by decide +kernel
theorem dX6_exchange_10 : decode cX6_exchange 10 = .ok (.getfield 16, 3) := by decide +kernel
theorem dX6_exchange_13 : decode cX6_exchange 13 = .ok (.invokestatic 96, 3) := by decide +kernel
theorem dX6_exchange_16 : decode cX6_exchange 16 = .ok (.iload_n 3, 1) := by decide +kernel
theorem dX6_exchange_17 : decode cX6_exchange 17 = .ok (.aload_n 0, 1) := by decide +kernel
theorem dX6_exchange_18 : decode cX6_exchange 18 = .ok (.getfield 16, 3) := by decide +kernel
theorem dX6_exchange_21 : decode cX6_exchange 21 = .ok (.invokestatic 96, 3) := by decide +kernel
theorem dX6_exchange_24 : decode cX6_exchange 24 = .ok (.iload_n 2, 1) := by decide +kernel
theorem dX6_exchange_25 : decode cX6_exchange 25 = .ok (.iload_n 3, 1) := by decide +kernel
theorem dX6_exchange_26 : decode cX6_exchange 26 = .ok (.if_icmp .ne 5, 3) := by decide +kernel
theorem dX6_exchange_29 : decode cX6_exchange 29 = .ok (.iconst 0, 1) := by decide +kernel
theorem dX6_exchange_30 : decode cX6_exchange 30 = .ok (.ireturn, 1) := by decide +kernel
theorem dX6_exchange_31 : decode cX6_exchange 31 = .ok (.aload_n 0, 1) := by decide +kernel
theorem dX6_exchange_32 : decode cX6_exchange 32 = .ok (.getfield 27, 3) := by decide +kernel
theorem dX6_exchange_35 : decode cX6_exchange 35 = .ok (.iload_n 1, 1) := by decide +kernel
theorem dX6_exchange_36 : decode cX6_exchange 36 = .ok (.aaload, 1) := by decide +kernel
theorem dX6_exchange_37 : decode cX6_exchange 37 = .ok (.getfield 99, 3) := by decide +kernel
theorem dX6_exchange_40 : decode cX6_exchange 40 = .ok (.iload_n 2, 1) := by decide +kernel
theorem dX6_exchange_41 : decode cX6_exchange 41 = .ok (.iload_n 3, 1) := by decide +kernel
theorem dX6_exchange_42 : decode cX6_exchange 42 = .ok (.invokestatic 102, 3) := by decide +kernel
theorem dX6_exchange_45 : decode cX6_exchange 45 = .ok (.aload_n 0, 1) := by decide +kernel
theorem dX6_exchange_46 : decode cX6_exchange 46 = .ok (.getfield 27, 3) := by decide +kernel
theorem dX6_exchange_49 : decode cX6_exchange 49 = .ok (.iload_n 1, 1) := by decide +kernel
theorem dX6_exchange_50 : decode cX6_exchange 50 = .ok (.aaload, 1) := by decide +kernel
theorem dX6_exchange_51 : decode cX6_exchange 51 = .ok (.getfield 106, 3) := by decide +kernel
theorem dX6_exchange_54 : decode cX6_exchange 54 = .ok (.iload_n 2, 1) := by decide +kernel
theorem dX6_exchange_55 : decode cX6_exchange 55 = .ok (.iload_n 3, 1) := by decide +kernel
theorem dX6_exchange_56 : decode cX6_exchange 56 = .ok (.invokestatic 102, 3) := by decide +kernel
theorem dX6_exchange_59 : decode cX6_exchange 59 = .ok (.aload_n 0, 1) := by decide +kernel
theorem dX6_exchange_60 : decode cX6_exchange 60 = .ok (.invokevirtual 93, 3) := by decide +kernel
theorem dX6_exchange_63 : decode cX6_exchange 63 = .ok (.iconst 1, 1) := by decide +kernel
theorem dX6_exchange_64 : decode cX6_exchange 64 = .ok (.ireturn, 1) := by decide +kernel
set_option maxRecDepth 20000 in
theorem ggX6_adds_X6_requireIndex : GoodIn wsX6_adds wsX6_requireIndex := goodIn_r _ [10, 11, 12, 13, 50, 51, 52, 53, 54, 55] (by decide +kernel) (by decide +kernel)
set_option maxRecDepth 20000 in
theorem gX6_adds_X6_requireIndex : GoodIn wsX6_adds (va_wsS RX6 96 yX6_requireIndex wsX6_requireIndex) := goodIn_app (goodIn_of _ (by decide +kernel)) ggX6_adds_X6_requireIndex
set_option maxRecDepth 20000 in
theorem ggX6_adds_X6_movesChanged : GoodIn wsX6_adds wsX6_movesChanged := goodIn_r _ [17, 18, 19, 20, 21, 22, 23, 24, 25, 26, 27, 28, 29, 30, 31, 32, 33, 34, 35, 36, 37, 38, 39, 40, 41, 42, 43, 44, 45, 46, 56, 57, 58, 59, 60, 61, 62, 63, 64, 65, 66, 67, 68, 69] (by decide +kernel) (by decide +kernel)
set_option maxRecDepth 20000 in
theorem gX6_adds_X6_movesChanged : GoodIn wsX6_adds (wsV RX6 93 RX6 yX6_movesChanged wsX6_movesChanged) := goodIn_app (goodIn_of _ (by decide +kernel)) ggX6_adds_X6_movesChanged
theorem dX6_adds_0 : decode cX6_adds 0 = .ok (.iload_n 1, 1) := by decide +kernel
theorem dX6_adds_1 : decode cX6_adds 1 = .ok (.aload_n 0, 1) := by decide +kernel
theorem dX6_adds_2 : decode cX6_adds 2 = .ok (.getfield 90, 3) := by decide +kernel
theorem dX6_adds_5 : decode cX6_adds 5 = .ok (.invokestatic 96, 3) := by decide +kernel
theorem dX6_adds_8 : decode cX6_adds 8 = .ok (.iload_n 2, 1) := by decide +kernel
theorem dX6_adds_9 : decode cX6_adds 9 = .ok (.aload_n 0, 1) := by decide +kernel
theorem dX6_adds_10 : decode cX6_adds 10 = .ok (.getfield 16, 3) := by decide +kernel
theorem dX6_adds_13 : decode cX6_adds 13 = .ok (.invokestatic 96, 3) := by decide +kernel
theorem dX6_adds_16 : decode cX6_adds 16 = .ok (.iload_n 3, 1) := by decide +kernel
theorem dX6_adds_17 : decode cX6_adds 17 = .ok (.ifCond .lt 11, 3) := by decide +kernel
theorem dX6_adds_20 : decode cX6_adds 20 = .ok (.iload_n 3, 1) := by decide +kernel
theorem dX6_adds_21 : decode cX6_adds 21 = .ok (.aload_n 0, 1) := by decide +kernel
theorem dX6_adds_22 : decode cX6_adds 22 = .ok (.getfield 22, 3) := by decide +kernel
theorem dX6_adds_25 : decode cX6_adds 25 = .ok (.if_icmp .lt 13, 3) := by decide +kernel
theorem dX6_adds_28 : decode cX6_adds 28 = .ok (.new 109, 3) := by decide +kernel
theorem dX6_adds_31 : decode cX6_adds 31 = .ok (.dup, 1) := by decide +kernel
theorem dX6_adds_32 : decode cX6_adds 32 = .ok (.ldc 111, 2) := by decide +kernel
theorem dX6_adds_34 : decode cX6_adds 34 = .ok (.invokespecial 113, 3) := by decide +kernel
theorem dX6_adds_37 : decode cX6_adds 37 = .ok (.athrow, 1) := by decide +kernel
theorem dX6_adds_38 : decode cX6_adds 38 = .ok (.aload_n 0, 1) := by decide +kernel
theorem dX6_adds_39 : decode cX6_adds 39 = .ok (.getfield 27, 3) := by decide +kernel
theorem dX6_adds_42 : decode cX6_adds 42 = .ok (.iload_n 1, 1) := by decide +kernel
theorem dX6_adds_43 : decode cX6_adds 43 = .ok (.aaload, 1) := by decide +kernel
theorem dX6_adds_44 : decode cX6_adds 44 = .ok (.getfield 106, 3) := by decide +kernel
theorem dX6_adds_47 : decode cX6_adds 47 = .ok (.iload_n 2, 1) := by decide +kernel
theorem dX6_adds_48 : decode cX6_adds 48 = .ok (.iaload, 1) := by decide +kernel
theorem dX6_adds_49 : decode cX6_adds 49 = .ok (.iload_n 3, 1) := by decide +kernel
theorem dX6_adds_50 : decode cX6_adds 50 = .ok (.if_icmp .ne 5, 3) := by decide +kernel
theorem dX6_adds_53 : decode cX6_adds 53 = .ok (.iconst 0, 1) := by decide +kernel
theorem dX6_adds_54 : decode cX6_adds 54 = .ok (.ireturn, 1) := by decide +kernel
theorem dX6_adds_55 : decode cX6_adds 55 = .ok (.aload_n 0, 1) := by decide +kernel
theorem dX6_adds_56 : decode cX6_adds 56 = .ok (.getfield 27, 3) := by decide +kernel
theorem dX6_adds_59 : decode cX6_adds 59 = .ok (.iload_n 1, 1) := by decide +kernel
theorem dX6_adds_60 : decode cX6_adds 60 = .ok (.aaload, 1) := by decide +kernel
theorem dX6_adds_61 : decode cX6_adds 61 = .ok (.getfield 106, 3) := by decide +kernel
theorem dX6_adds_64 : decode cX6_adds 64 = .ok (.iload_n 2, 1) := by decide +kernel
theorem dX6_adds_65 : decode cX6_adds 65 = .ok (.iload_n 3, 1) := by decide +kernel
theorem dX6_adds_66 : decode cX6_adds 66 = .ok (.iastore, 1) := by decide +kernel
theorem dX6_adds_67 : decode cX6_adds 67 = .ok (.aload_n 0, 1) := by decide +kernel
theorem dX6_adds_68 : decode cX6_adds 68 = .ok (.invokevirtual 93, 3) := by decide +kernel
theorem dX6_adds_71 : decode cX6_adds 71 = .ok (.iconst 1, 1) := by decide +kernel
theorem dX6_adds_72 : decode cX6_adds 72 = .ok (.ireturn, 1) := by decide +kernel
set_option maxRecDepth 20000 in
theorem ggX6_order_X6_requireIndex : GoodIn wsX6_order wsX6_requireIndex := goodIn_r _ [6, 7, 8, 9, 51, 52, 53, 54, 55, 56] (by decide +kernel) (by decide +kernel)
set_option maxRecDepth 20000 in
theorem gX6_order_X6_requireIndex : GoodIn wsX6_order (va_wsS RX6 96 yX6_requireIndex wsX6_requireIndex) := goodIn_app (goodIn_of _ (by decide +kernel)) ggX6_order_X6_requireIndex
set_option maxRecDepth 20000 in
theorem ggX6_order_X6_orderOf : GoodIn wsX6_order wsX6_orderOf := goodIn_ca (goodIn_r _ [13, 14, 15, 16, 17, 18, 19, 20, 21, 22, 5, 23, 24, 25, 26, 27, 28, 29, 30, 31, 32, 33, 34, 35, 36, 37, 38, 39, 40, 41, 42, 43, 44, 45, 46, 47, 48, 49, 50, 57, 58, 59, 60, 61] (by decide +kernel) (by decide +kernel)) (goodIn_sub (fun _ h => List.mem_cons_of_mem _ (List.mem_append_right _ h)) (by decide +kernel))
set_option maxRecDepth 20000 in
theorem gX6_order_X6_orderOf : GoodIn wsX6_order (wsV RX6 116 RX6 yX6_orderOf wsX6_orderOf) := goodIn_app (goodIn_of _ (by decide +kernel)) ggX6_order_X6_orderOf
theorem dX6_order_0 : decode cX6_order 0 = .ok (.iload_n 1, 1) := by decide +kernel
theorem dX6_order_1 : decode cX6_order 1 = .ok (.aload_n 0, 1) := by decide +kernel
theorem dX6_order_2 : decode cX6_order 2 = .ok (.getfield 90, 3) := by decide +kernel
theorem dX6_order_5 : decode cX6_order 5 = .ok (.invokestatic 96, 3) := by decide +kernel
theorem dX6_order_8 : decode cX6_order 8 = .ok (.aload_n 0, 1) := by decide +kernel
theorem dX6_order_9 : decode cX6_order 9 = .ok (.aload_n 0, 1) := by decide +kernel
theorem dX6_order_10 : decode cX6_order 10 = .ok (.getfield 27, 3) := by decide +kernel
theorem dX6_order_13 : decode cX6_order 13 = .ok (.iload_n 1, 1) := by decide +kernel
theorem dX6_order_14 : decode cX6_order 14 = .ok (.aaload, 1) := by decide +kernel
theorem dX6_order_15 : decode cX6_order 15 = .ok (.invokevirtual 116, 3) := by decide +kernel
theorem dX6_order_18 : decode cX6_order 18 = .ok (.ireturn, 1) := by decide +kernel
set_option maxRecDepth 20000 in
theorem ggX6_choose_X6_requireIndex : GoodIn wsX6_choose wsX6_requireIndex := goodIn_r _ [9, 10, 11, 12, 77, 78, 79, 80, 81, 82] (by decide +kernel) (by decide +kernel)
set_option maxRecDepth 20000 in
theorem gX6_choose_X6_requireIndex : GoodIn wsX6_choose (va_wsS RX6 96 yX6_requireIndex wsX6_requireIndex) := goodIn_app (goodIn_of _ (by decide +kernel)) ggX6_choose_X6_requireIndex
set_option maxRecDepth 20000 in
theorem ggX6_choose_X1_has : GoodIn wsX6_choose wsX1_has := goodIn_ca (goodIn_r _ [17, 18, 69, 70, 71, 72, 73, 74, 75, 76] (by decide +kernel) (by decide +kernel)) (goodIn_sub (fun _ h => List.mem_cons_of_mem _ (List.mem_append_right _ h)) (by decide +kernel))
set_option maxRecDepth 20000 in
theorem gX6_choose_X1_has : GoodIn wsX6_choose (wsV RX6 120 RX1 yX1_has wsX1_has) := goodIn_app (goodIn_of _ (by decide +kernel)) ggX6_choose_X1_has
set_option maxRecDepth 20000 in
theorem ggX6_choose_X1_change : GoodIn wsX6_choose wsX1_change := goodIn_ca (goodIn_r _ [22, 18, 23, 24, 25, 26, 27, 28, 69, 70, 71, 72, 73, 74, 75, 76] (by decide +kernel) (by decide +kernel)) (goodIn_sub (fun _ h => List.mem_cons_of_mem _ (List.mem_append_right _ h)) (by decide +kernel))
set_option maxRecDepth 20000 in
theorem gX6_choose_X1_change : GoodIn wsX6_choose (wsV RX6 127 RX1 yX1_change wsX1_change) := goodIn_app (goodIn_of _ (by decide +kernel)) ggX6_choose_X1_change
set_option maxRecDepth 20000 in
theorem ggX6_choose_X5_drop : GoodIn wsX6_choose wsX5_drop := goodIn_r _ [33, 34, 83, 84, 85, 86, 87, 88] (by decide +kernel) (by decide +kernel)
set_option maxRecDepth 20000 in
theorem gX6_choose_X5_drop : GoodIn wsX6_choose (wsV RX6 131 RX5 yX5_drop wsX5_drop) := goodIn_app (goodIn_of _ (by decide +kernel)) ggX6_choose_X5_drop
set_option maxRecDepth 20000 in
theorem ggX6_choose_X2_forget : GoodIn wsX6_choose wsX2_forget := goodIn_r _ [39, 40, 89, 90, 91, 92, 93, 94, 95, 96] (by decide +kernel) (by decide +kernel)
set_option maxRecDepth 20000 in
theorem gX6_choose_X2_forget : GoodIn wsX6_choose (wsV RX6 134 RX2 yX2_forget wsX2_forget) := goodIn_app (goodIn_of _ (by decide +kernel)) ggX6_choose_X2_forget
set_option maxRecDepth 20000 in
theorem ggX6_choose_X3_goHome : GoodIn wsX6_choose wsX3_goHome := goodIn_ca (goodIn_r _ [45, 46, 47, 48, 8, 49, 50, 51, 52, 53, 97, 98] (by decide +kernel) (by decide +kernel)) (goodIn_sub (fun _ h => List.mem_cons_of_mem _ (List.mem_append_right _ h)) (by decide +kernel))
set_option maxRecDepth 20000 in
theorem gX6_choose_X3_goHome : GoodIn wsX6_choose (wsV RX6 137 RX3 yX3_goHome wsX3_goHome) := goodIn_app (goodIn_of _ (by decide +kernel)) ggX6_choose_X3_goHome
theorem dX6_choose_0 : decode cX6_choose 0 = .ok (.iload_n 1, 1) := by decide +kernel
theorem dX6_choose_1 : decode cX6_choose 1 = .ok (.aload_n 0, 1) := by decide +kernel
theorem dX6_choose_2 : decode cX6_choose 2 = .ok (.getfield 16, 3) := by decide +kernel
theorem dX6_choose_5 : decode cX6_choose 5 = .ok (.invokestatic 96, 3) := by decide +kernel
theorem dX6_choose_8 : decode cX6_choose 8 = .ok (.aload_n 0, 1) := by decide +kernel
theorem dX6_choose_9 : decode cX6_choose 9 = .ok (.getfield 42, 3) := by decide +kernel
theorem dX6_choose_12 : decode cX6_choose 12 = .ok (.iload_n 1, 1) := by decide +kernel
theorem dX6_choose_13 : decode cX6_choose 13 = .ok (.invokevirtual 120, 3) := by decide +kernel
theorem dX6_choose_16 : decode cX6_choose 16 = .ok (.iload_n 2, 1) := by decide +kernel
theorem dX6_choose_17 : decode cX6_choose 17 = .ok (.if_icmp .eq 18, 3) := by decide +kernel
theorem dX6_choose_20 : decode cX6_choose 20 = .ok (.iload_n 2, 1) := by decide +kernel
theorem dX6_choose_21 : decode cX6_choose 21 = .ok (.ifCond .eq 16, 3) := by decide +kernel
theorem dX6_choose_24 : decode cX6_choose 24 = .ok (.aload_n 0, 1) := by decide +kernel
theorem dX6_choose_25 : decode cX6_choose 25 = .ok (.getfield 42, 3) := by decide +kernel
theorem dX6_choose_28 : decode cX6_choose 28 = .ok (.getfield 124, 3) := by decide +kernel
theorem dX6_choose_31 : decode cX6_choose 31 = .ok (.iconst 4, 1) := by decide +kernel
theorem dX6_choose_32 : decode cX6_choose 32 = .ok (.if_icmp .lt 5, 3) := by decide +kernel
theorem dX6_choose_35 : decode cX6_choose 35 = .ok (.iconst 0, 1) := by decide +kernel
theorem dX6_choose_36 : decode cX6_choose 36 = .ok (.ireturn, 1) := by decide +kernel
theorem dX6_choose_37 : decode cX6_choose 37 = .ok (.aload_n 0, 1) := by decide +kernel
theorem dX6_choose_38 : decode cX6_choose 38 = .ok (.getfield 42, 3) := by decide +kernel
theorem dX6_choose_41 : decode cX6_choose 41 = .ok (.iload_n 1, 1) := by decide +kernel
theorem dX6_choose_42 : decode cX6_choose 42 = .ok (.iload_n 2, 1) := by decide +kernel
theorem dX6_choose_43 : decode cX6_choose 43 = .ok (.invokevirtual 127, 3) := by decide +kernel
theorem dX6_choose_46 : decode cX6_choose 46 = .ok (.aload_n 0, 1) := by decide +kernel
theorem dX6_choose_47 : decode cX6_choose 47 = .ok (.getfield 79, 3) := by decide +kernel
theorem dX6_choose_50 : decode cX6_choose 50 = .ok (.invokevirtual 131, 3) := by decide +kernel
theorem dX6_choose_53 : decode cX6_choose 53 = .ok (.aload_n 0, 1) := by decide +kernel
theorem dX6_choose_54 : decode cX6_choose 54 = .ok (.getfield 86, 3) := by decide +kernel
theorem dX6_choose_57 : decode cX6_choose 57 = .ok (.invokevirtual 134, 3) := by decide +kernel
theorem dX6_choose_60 : decode cX6_choose 60 = .ok (.aload_n 0, 1) := by decide +kernel
theorem dX6_choose_61 : decode cX6_choose 61 = .ok (.getfield 51, 3) := by decide +kernel
theorem dX6_choose_64 : decode cX6_choose 64 = .ok (.invokevirtual 137, 3) := by decide +kernel
theorem dX6_choose_67 : decode cX6_choose 67 = .ok (.iconst 1, 1) := by decide +kernel
theorem dX6_choose_68 : decode cX6_choose 68 = .ok (.ireturn, 1) := by decide +kernel
set_option maxRecDepth 20000 in
theorem ggX6_size_X1_stateCount : GoodIn wsX6_size wsX1_stateCount := goodIn_r _ [6, 7, 8, 24, 25, 26, 27, 28, 29, 30, 31] (by decide +kernel) (by decide +kernel)
set_option maxRecDepth 20000 in
theorem gX6_size_X1_stateCount : GoodIn wsX6_size (wsV RX6 140 RX1 yX1_stateCount wsX1_stateCount) := goodIn_app (goodIn_of _ (by decide +kernel)) ggX6_size_X1_stateCount
theorem dX6_size_0 : decode cX6_size 0 = .ok (.aload_n 0, 1) := by decide +kernel
theorem dX6_size_1 : decode cX6_size 1 = .ok (.getfield 42, 3) := by decide +kernel
theorem dX6_size_4 : decode cX6_size 4 = .ok (.invokevirtual 140, 3) := by decide +kernel
theorem dX6_size_7 : decode cX6_size 7 = .ok (.ireturn, 1) := by decide +kernel
set_option maxRecDepth 20000 in
theorem ggX6_set_X1_stateCount : GoodIn wsX6_set wsX1_stateCount := goodIn_r _ [7, 8, 9, 53, 54, 55, 56, 57, 58, 59, 60] (by decide +kernel) (by decide +kernel)
set_option maxRecDepth 20000 in
theorem gX6_set_X1_stateCount : GoodIn wsX6_set (wsV RX6 140 RX1 yX1_stateCount wsX1_stateCount) := goodIn_app (goodIn_of _ (by decide +kernel)) ggX6_set_X1_stateCount
set_option maxRecDepth 20000 in
theorem ggX6_set_X6_requireIndex : GoodIn wsX6_set wsX6_requireIndex := goodIn_r _ [13, 14, 15, 16, 61, 62, 63, 64, 65, 66] (by decide +kernel) (by decide +kernel)
set_option maxRecDepth 20000 in
theorem gX6_set_X6_requireIndex : GoodIn wsX6_set (va_wsS RX6 96 yX6_requireIndex wsX6_requireIndex) := goodIn_app (goodIn_of _ (by decide +kernel)) ggX6_set_X6_requireIndex
set_option maxRecDepth 20000 in
theorem ggX6_set_X1_read : GoodIn wsX6_set wsX1_read := goodIn_ca (goodIn_r _ [20, 9, 21, 22, 23, 6, 24, 25, 26, 27, 28, 29, 30, 31, 32, 33, 34, 35, 36, 37, 53, 54, 55, 56, 57, 58, 59, 60, 67, 68] (by decide +kernel) (by decide +kernel)) (goodIn_sub (fun _ h => List.mem_cons_of_mem _ (List.mem_append_right _ h)) (by decide +kernel))
set_option maxRecDepth 20000 in
theorem gX6_set_X1_read : GoodIn wsX6_set (wsV RX6 144 RX1 yX1_read wsX1_read) := goodIn_app (goodIn_of _ (by decide +kernel)) ggX6_set_X1_read
theorem dX6_set_0 : decode cX6_set 0 = .ok (.iload_n 1, 1) := by decide +kernel
theorem dX6_set_1 : decode cX6_set 1 = .ok (.aload_n 0, 1) := by decide +kernel
theorem dX6_set_2 : decode cX6_set 2 = .ok (.getfield 42, 3) := by decide +kernel
theorem dX6_set_5 : decode cX6_set 5 = .ok (.invokevirtual 140, 3) := by decide +kernel
theorem dX6_set_8 : decode cX6_set 8 = .ok (.invokestatic 96, 3) := by decide +kernel
theorem dX6_set_11 : decode cX6_set 11 = .ok (.aload_n 0, 1) := by decide +kernel
theorem dX6_set_12 : decode cX6_set 12 = .ok (.getfield 42, 3) := by decide +kernel
theorem dX6_set_15 : decode cX6_set 15 = .ok (.iload_n 1, 1) := by decide +kernel
theorem dX6_set_16 : decode cX6_set 16 = .ok (.aload_n 0, 1) := by decide +kernel
theorem dX6_set_17 : decode cX6_set 17 = .ok (.getfield 51, 3) := by decide +kernel
theorem dX6_set_20 : decode cX6_set 20 = .ok (.invokevirtual 144, 3) := by decide +kernel
theorem dX6_set_23 : decode cX6_set 23 = .ok (.return_, 1) := by decide +kernel
set_option maxRecDepth 20000 in
theorem ggX6_number_X1_numberOf : GoodIn wsX6_number wsX1_numberOf := goodIn_ca (goodIn_r _ [7, 8, 9, 10, 11, 12, 13, 14, 15, 16, 17, 18, 34, 35, 36, 37, 38, 39, 40, 41, 42, 43] (by decide +kernel) (by decide +kernel)) (goodIn_sub (fun _ h => List.mem_cons_of_mem _ (List.mem_append_right _ h)) (by decide +kernel))
set_option maxRecDepth 20000 in
theorem gX6_number_X1_numberOf : GoodIn wsX6_number (wsV RX6 148 RX1 yX1_numberOf wsX1_numberOf) := goodIn_app (goodIn_of _ (by decide +kernel)) ggX6_number_X1_numberOf
theorem dX6_number_0 : decode cX6_number 0 = .ok (.aload_n 0, 1) := by decide +kernel
theorem dX6_number_1 : decode cX6_number 1 = .ok (.getfield 42, 3) := by decide +kernel
theorem dX6_number_4 : decode cX6_number 4 = .ok (.aload_n 0, 1) := by decide +kernel
theorem dX6_number_5 : decode cX6_number 5 = .ok (.getfield 51, 3) := by decide +kernel
theorem dX6_number_8 : decode cX6_number 8 = .ok (.invokevirtual 148, 3) := by decide +kernel
theorem dX6_number_11 : decode cX6_number 11 = .ok (.ireturn, 1) := by decide +kernel
set_option maxRecDepth 20000 in
theorem ggX6_place_X6_requireIndex : GoodIn wsX6_place wsX6_requireIndex := goodIn_r _ [7, 8, 9, 10, 34, 35, 36, 37, 38, 39] (by decide +kernel) (by decide +kernel)
set_option maxRecDepth 20000 in
theorem gX6_place_X6_requireIndex : GoodIn wsX6_place (va_wsS RX6 96 yX6_requireIndex wsX6_requireIndex) := goodIn_app (goodIn_of _ (by decide +kernel)) ggX6_place_X6_requireIndex
set_option maxRecDepth 20000 in
theorem ggX6_place_X1_has : GoodIn wsX6_place wsX1_has := goodIn_ca (goodIn_r _ [15, 16, 40, 41, 42, 43, 44, 45, 46, 47] (by decide +kernel) (by decide +kernel)) (goodIn_sub (fun _ h => List.mem_cons_of_mem _ (List.mem_append_right _ h)) (by decide +kernel))
set_option maxRecDepth 20000 in
theorem gX6_place_X1_has : GoodIn wsX6_place (wsV RX6 120 RX1 yX1_has wsX1_has) := goodIn_app (goodIn_of _ (by decide +kernel)) ggX6_place_X1_has
theorem dX6_place_0 : decode cX6_place 0 = .ok (.iload_n 1, 1) := by decide +kernel
theorem dX6_place_1 : decode cX6_place 1 = .ok (.aload_n 0, 1) := by decide +kernel
theorem dX6_place_2 : decode cX6_place 2 = .ok (.getfield 16, 3) := by decide +kernel
theorem dX6_place_5 : decode cX6_place 5 = .ok (.invokestatic 96, 3) := by decide +kernel
theorem dX6_place_8 : decode cX6_place 8 = .ok (.aload_n 0, 1) := by decide +kernel
theorem dX6_place_9 : decode cX6_place 9 = .ok (.getfield 42, 3) := by decide +kernel
theorem dX6_place_12 : decode cX6_place 12 = .ok (.iload_n 1, 1) := by decide +kernel
theorem dX6_place_13 : decode cX6_place 13 = .ok (.invokevirtual 120, 3) := by decide +kernel
theorem dX6_place_16 : decode cX6_place 16 = .ok (.ifCond .eq 15, 3) := by decide +kernel
theorem dX6_place_19 : decode cX6_place 19 = .ok (.aload_n 0, 1) := by decide +kernel
theorem dX6_place_20 : decode cX6_place 20 = .ok (.getfield 51, 3) := by decide +kernel
theorem dX6_place_23 : decode cX6_place 23 = .ok (.getfield 152, 3) := by decide +kernel
theorem dX6_place_26 : decode cX6_place 26 = .ok (.iload_n 1, 1) := by decide +kernel
theorem dX6_place_27 : decode cX6_place 27 = .ok (.iaload, 1) := by decide +kernel
theorem dX6_place_28 : decode cX6_place 28 = .ok (.goto 4, 3) := by decide +kernel
theorem dX6_place_31 : decode cX6_place 31 = .ok (.iconst (-1), 1) := by decide +kernel
theorem dX6_place_32 : decode cX6_place 32 = .ok (.ireturn, 1) := by decide +kernel
set_option maxRecDepth 20000 in
theorem ggX6_twist_X6_requireIndex : GoodIn wsX6_twist wsX6_requireIndex := goodIn_r _ [7, 8, 9, 10, 34, 35, 36, 37, 38, 39] (by decide +kernel) (by decide +kernel)
set_option maxRecDepth 20000 in
theorem gX6_twist_X6_requireIndex : GoodIn wsX6_twist (va_wsS RX6 96 yX6_requireIndex wsX6_requireIndex) := goodIn_app (goodIn_of _ (by decide +kernel)) ggX6_twist_X6_requireIndex
set_option maxRecDepth 20000 in
theorem ggX6_twist_X1_has : GoodIn wsX6_twist wsX1_has := goodIn_ca (goodIn_r _ [15, 16, 40, 41, 42, 43, 44, 45, 46, 47] (by decide +kernel) (by decide +kernel)) (goodIn_sub (fun _ h => List.mem_cons_of_mem _ (List.mem_append_right _ h)) (by decide +kernel))
set_option maxRecDepth 20000 in
theorem gX6_twist_X1_has : GoodIn wsX6_twist (wsV RX6 120 RX1 yX1_has wsX1_has) := goodIn_app (goodIn_of _ (by decide +kernel)) ggX6_twist_X1_has
theorem dX6_twist_0 : decode cX6_twist 0 = .ok (.iload_n 1, 1) := by decide +kernel
theorem dX6_twist_1 : decode cX6_twist 1 = .ok (.aload_n 0, 1) := by decide +kernel
theorem dX6_twist_2 : decode cX6_twist 2 = .ok (.getfield 16, 3) := by decide +kernel
theorem dX6_twist_5 : decode cX6_twist 5 = .ok (.invokestatic 96, 3) := by decide +kernel
theorem dX6_twist_8 : decode cX6_twist 8 = .ok (.aload_n 0, 1) := by decide +kernel
theorem dX6_twist_9 : decode cX6_twist 9 = .ok (.getfield 42, 3) := by decide +kernel
theorem dX6_twist_12 : decode cX6_twist 12 = .ok (.iload_n 1, 1) := by decide +kernel
theorem dX6_twist_13 : decode cX6_twist 13 = .ok (.invokevirtual 120, 3) := by decide +kernel
theorem dX6_twist_16 : decode cX6_twist 16 = .ok (.ifCond .eq 15, 3) := by decide +kernel
theorem dX6_twist_19 : decode cX6_twist 19 = .ok (.aload_n 0, 1) := by decide +kernel
theorem dX6_twist_20 : decode cX6_twist 20 = .ok (.getfield 51, 3) := by decide +kernel
theorem dX6_twist_23 : decode cX6_twist 23 = .ok (.getfield 155, 3) := by decide +kernel
theorem dX6_twist_26 : decode cX6_twist 26 = .ok (.iload_n 1, 1) := by decide +kernel
theorem dX6_twist_27 : decode cX6_twist 27 = .ok (.iaload, 1) := by decide +kernel
theorem dX6_twist_28 : decode cX6_twist 28 = .ok (.goto 4, 3) := by decide +kernel
theorem dX6_twist_31 : decode cX6_twist 31 = .ok (.iconst (-1), 1) := by decide +kernel
theorem dX6_twist_32 : decode cX6_twist 32 = .ok (.ireturn, 1) := by decide +kernel
set_option maxRecDepth 20000 in
theorem ggX6_apply_X6_requireIndex : GoodIn wsX6_apply wsX6_requireIndex := goodIn_r _ [7, 8, 9, 10, 33, 34, 35, 36, 37, 38] (by decide +kernel) (by decide +kernel)
set_option maxRecDepth 20000 in
theorem gX6_apply_X6_requireIndex : GoodIn wsX6_apply (va_wsS RX6 96 yX6_requireIndex wsX6_requireIndex) := goodIn_app (goodIn_of _ (by decide +kernel)) ggX6_apply_X6_requireIndex
set_option maxRecDepth 20000 in
theorem ggX6_apply_X3_follow : GoodIn wsX6_apply wsX3_follow := goodIn_ca (goodIn_r _ [15, 16, 17, 39, 40, 41, 42, 43] (by decide +kernel) (by decide +kernel)) (goodIn_sub (fun _ h => List.mem_cons_of_mem _ (List.mem_append_right _ h)) (by decide +kernel))
set_option maxRecDepth 20000 in
theorem gX6_apply_X3_follow : GoodIn wsX6_apply (wsV RX6 158 RX3 yX3_follow wsX3_follow) := goodIn_app (goodIn_of _ (by decide +kernel)) ggX6_apply_X3_follow
theorem dX6_apply_0 : decode cX6_apply 0 = .ok (.iload_n 1, 1) := by decide +kernel
theorem dX6_apply_1 : decode cX6_apply 1 = .ok (.aload_n 0, 1) := by decide +kernel
theorem dX6_apply_2 : decode cX6_apply 2 = .ok (.getfield 90, 3) := by decide +kernel
theorem dX6_apply_5 : decode cX6_apply 5 = .ok (.invokestatic 96, 3) := by decide +kernel
theorem dX6_apply_8 : decode cX6_apply 8 = .ok (.aload_n 0, 1) := by decide +kernel
theorem dX6_apply_9 : decode cX6_apply 9 = .ok (.getfield 51, 3) := by decide +kernel
theorem dX6_apply_12 : decode cX6_apply 12 = .ok (.aload_n 0, 1) := by decide +kernel
theorem dX6_apply_13 : decode cX6_apply 13 = .ok (.getfield 27, 3) := by decide +kernel
theorem dX6_apply_16 : decode cX6_apply 16 = .ok (.iload_n 1, 1) := by decide +kernel
theorem dX6_apply_17 : decode cX6_apply 17 = .ok (.aaload, 1) := by decide +kernel
theorem dX6_apply_18 : decode cX6_apply 18 = .ok (.invokevirtual 158, 3) := by decide +kernel
theorem dX6_apply_21 : decode cX6_apply 21 = .ok (.return_, 1) := by decide +kernel
set_option maxRecDepth 20000 in
theorem ggX6_build_X4_prepare : GoodIn wsX6_build wsX4_prepare := goodIn_ca (goodIn_r _ [13, 14, 15, 16, 17, 18, 19, 20, 21, 22, 23, 24, 25, 26, 27, 28, 29, 30, 156, 157, 158, 159, 160, 161, 162, 163, 164, 165, 166, 167, 168, 169] (by decide +kernel) (by decide +kernel)) (goodIn_sub (fun _ h => List.mem_cons_of_mem _ (List.mem_append_right _ h)) (by decide +kernel))
set_option maxRecDepth 20000 in
theorem gX6_build_X4_prepare : GoodIn wsX6_build (wsV RX6 162 RX4 yX4_prepare wsX4_prepare) := goodIn_app (goodIn_of _ (by decide +kernel)) ggX6_build_X4_prepare
set_option maxRecDepth 20000 in
theorem ggX6_build_X0_invert : GoodIn wsX6_build wsX0_invert := goodIn_ca (goodIn_r _ [35, 36, 37, 38, 170, 171, 172] (by decide +kernel) (by decide +kernel)) (goodIn_sub (fun _ h => List.mem_cons_of_mem _ (List.mem_append_right _ h)) (by decide +kernel))
set_option maxRecDepth 20000 in
theorem gX6_build_X0_invert : GoodIn wsX6_build (wsV RX6 166 RX0 yX0_invert wsX0_invert) := goodIn_app (goodIn_of _ (by decide +kernel)) ggX6_build_X0_invert
set_option maxRecDepth 20000 in
theorem ggX6_build_X4_learn : GoodIn wsX6_build wsX4_learn := goodIn_ca (goodIn_r _ [42, 15, 16, 17, 18, 43, 44, 45, 27, 46, 47, 48, 49, 50, 51, 29, 52, 30, 53, 54, 55, 56, 57, 58, 59, 60, 61, 62, 63, 64, 65, 66, 67, 68, 69, 70, 71, 72, 73, 74, 75, 76, 77, 78, 79, 80, 156, 157, 158, 159, 160, 161, 162, 163, 164, 165, 166, 167, 168, 169, 173, 174, 170, 171, 172] (by decide +kernel) (by decide +kernel)) (goodIn_sub (fun _ h => List.mem_cons_of_mem _ (List.mem_append_right _ h)) (by decide +kernel))
set_option maxRecDepth 20000 in
theorem gX6_build_X4_learn : GoodIn wsX6_build (wsV RX6 169 RX4 yX4_learn wsX4_learn) := goodIn_app (goodIn_of _ (by decide +kernel)) ggX6_build_X4_learn
set_option maxRecDepth 20000 in
theorem ggX6_build_X6_mostRepeats : GoodIn wsX6_build wsX6_mostRepeats := goodIn_ca (goodIn_r _ [84, 5, 85, 86, 87, 21, 88, 6, 89, 90, 91, 66, 92, 68, 69, 93, 94, 95, 96, 97, 98, 99, 64, 65, 67, 100, 101, 102, 103, 141, 142, 143, 144, 145, 146, 147, 148, 149, 150, 151, 152, 153, 154, 155, 173, 174, 170, 171, 172] (by decide +kernel) (by decide +kernel)) (goodIn_sub (fun _ h => List.mem_cons_of_mem _ (List.mem_append_right _ h)) (by decide +kernel))
set_option maxRecDepth 20000 in
theorem gX6_build_X6_mostRepeats : GoodIn wsX6_build (wsV RX6 173 RX6 yX6_mostRepeats wsX6_mostRepeats) := goodIn_app (goodIn_of _ (by decide +kernel)) ggX6_build_X6_mostRepeats
set_option maxRecDepth 20000 in
theorem ggX6_build_X3_goHome : GoodIn wsX6_build wsX3_goHome := goodIn_ca (goodIn_r _ [92, 68, 69, 93, 21, 94, 95, 96, 97, 98, 173, 174] (by decide +kernel) (by decide +kernel)) (goodIn_sub (fun _ h => List.mem_cons_of_mem _ (List.mem_append_right _ h)) (by decide +kernel))
set_option maxRecDepth 20000 in
theorem gX6_build_X3_goHome : GoodIn wsX6_build (wsV RX6 137 RX3 yX3_goHome wsX3_goHome) := goodIn_app (goodIn_of _ (by decide +kernel)) ggX6_build_X3_goHome
set_option maxRecDepth 20000 in
theorem ggX6_build_X1_numberOf : GoodIn wsX6_build wsX1_numberOf := goodIn_ca (goodIn_r _ [73, 29, 52, 58, 30, 74, 75, 76, 77, 78, 79, 80, 162, 163, 164, 165, 166, 167, 168, 169, 173, 174] (by decide +kernel) (by decide +kernel)) (goodIn_sub (fun _ h => List.mem_cons_of_mem _ (List.mem_append_right _ h)) (by decide +kernel))
set_option maxRecDepth 20000 in
theorem gX6_build_X1_numberOf : GoodIn wsX6_build (wsV RX6 148 RX1 yX1_numberOf wsX1_numberOf) := goodIn_app (goodIn_of _ (by decide +kernel)) ggX6_build_X1_numberOf
set_option maxRecDepth 20000 in
theorem ggX6_build_X5_grow : GoodIn wsX6_build wsX5_grow := goodIn_ca (goodIn_r _ [109, 110, 111, 112, 113, 114, 115, 116, 117, 118, 27, 119, 120, 47, 20, 21, 22, 23, 121, 122, 97, 123, 124, 125, 126, 127, 128, 129, 130, 131, 132, 133, 134, 135, 108, 136, 137, 138, 139, 12, 140, 16, 15, 17, 19, 18, 175, 176, 177, 178, 179, 180, 156, 157, 158, 159, 160, 161, 162, 163, 164, 165, 166, 167, 168, 169, 181, 182, 183, 184, 185, 186, 187, 188, 189, 190] (by decide +kernel) (by decide +kernel)) (goodIn_sub (fun _ h => List.mem_cons_of_mem _ (List.mem_append_right _ h)) (by decide +kernel))
set_option maxRecDepth 20000 in
theorem gX6_build_X5_grow : GoodIn wsX6_build (wsV RX6 176 RX5 yX5_grow wsX5_grow) := goodIn_app (goodIn_of _ (by decide +kernel)) ggX6_build_X5_grow
theorem dX6_build_0 : decode cX6_build 0 = .ok (.iload_n 1, 1) := by decide +kernel
theorem dX6_build_1 : decode cX6_build 1 = .ok (.ifCond .eq 10, 3) := by decide +kernel
theorem dX6_build_4 : decode cX6_build 4 = .ok (.iload_n 1, 1) := by decide +kernel
theorem dX6_build_5 : decode cX6_build 5 = .ok (.iconst 1, 1) := by decide +kernel
theorem dX6_build_6 : decode cX6_build 6 = .ok (.if_icmp .eq 5, 3) := by decide +kernel
theorem dX6_build_9 : decode cX6_build 9 = .ok (.iconst (-1), 1) := by decide +kernel
theorem dX6_build_10 : decode cX6_build 10 = .ok (.ireturn, 1) := by decide +kernel
theorem dX6_build_11 : decode cX6_build 11 = .ok (.aload_n 0, 1) := by decide +kernel
theorem dX6_build_12 : decode cX6_build 12 = .ok (.getfield 72, 3) := by decide +kernel
theorem dX6_build_15 : decode cX6_build 15 = .ok (.aload_n 0, 1) := by decide +kernel
theorem dX6_build_16 : decode cX6_build 16 = .ok (.getfield 42, 3) := by decide +kernel
theorem dX6_build_19 : decode cX6_build 19 = .ok (.aload_n 0, 1) := by decide +kernel
theorem dX6_build_20 : decode cX6_build 20 = .ok (.getfield 90, 3) := by decide +kernel
theorem dX6_build_23 : decode cX6_build 23 = .ok (.invokevirtual 162, 3) := by decide +kernel
theorem dX6_build_26 : decode cX6_build 26 = .ok (.iconst 0, 1) := by decide +kernel
theorem dX6_build_27 : decode cX6_build 27 = .ok (.istore_n 2, 1) := by decide +kernel
theorem dX6_build_28 : decode cX6_build 28 = .ok (.iload_n 2, 1) := by decide +kernel
theorem dX6_build_29 : decode cX6_build 29 = .ok (.aload_n 0, 1) := by decide +kernel
theorem dX6_build_30 : decode cX6_build 30 = .ok (.getfield 90, 3) := by decide +kernel
theorem dX6_build_33 : decode cX6_build 33 = .ok (.if_icmp .ge 54, 3) := by decide +kernel
theorem dX6_build_36 : decode cX6_build 36 = .ok (.aload_n 0, 1) := by decide +kernel
theorem dX6_build_37 : decode cX6_build 37 = .ok (.getfield 61, 3) := by decide +kernel
theorem dX6_build_40 : decode cX6_build 40 = .ok (.aload_n 0, 1) := by decide +kernel
theorem dX6_build_41 : decode cX6_build 41 = .ok (.getfield 27, 3) := by decide +kernel
theorem dX6_build_44 : decode cX6_build 44 = .ok (.iload_n 2, 1) := by decide +kernel
theorem dX6_build_45 : decode cX6_build 45 = .ok (.aaload, 1) := by decide +kernel
theorem dX6_build_46 : decode cX6_build 46 = .ok (.invokevirtual 166, 3) := by decide +kernel
theorem dX6_build_49 : decode cX6_build 49 = .ok (.aload_n 0, 1) := by decide +kernel
theorem dX6_build_50 : decode cX6_build 50 = .ok (.getfield 72, 3) := by decide +kernel
theorem dX6_build_53 : decode cX6_build 53 = .ok (.iload_n 2, 1) := by decide +kernel
theorem dX6_build_54 : decode cX6_build 54 = .ok (.aload_n 0, 1) := by decide +kernel
theorem dX6_build_55 : decode cX6_build 55 = .ok (.getfield 61, 3) := by decide +kernel
theorem dX6_build_58 : decode cX6_build 58 = .ok (.aload_n 0, 1) := by decide +kernel
theorem dX6_build_59 : decode cX6_build 59 = .ok (.getfield 42, 3) := by decide +kernel
theorem dX6_build_62 : decode cX6_build 62 = .ok (.aload_n 0, 1) := by decide +kernel
theorem dX6_build_63 : decode cX6_build 63 = .ok (.getfield 55, 3) := by decide +kernel
theorem dX6_build_66 : decode cX6_build 66 = .ok (.invokevirtual 169, 3) := by decide +kernel
theorem dX6_build_69 : decode cX6_build 69 = .ok (.aload_n 0, 1) := by decide +kernel
theorem dX6_build_70 : decode cX6_build 70 = .ok (.getfield 65, 3) := by decide +kernel
theorem dX6_build_73 : decode cX6_build 73 = .ok (.iload_n 2, 1) := by decide +kernel
theorem dX6_build_74 : decode cX6_build 74 = .ok (.aload_n 0, 1) := by decide +kernel
theorem dX6_build_75 : decode cX6_build 75 = .ok (.iload_n 2, 1) := by decide +kernel
theorem dX6_build_76 : decode cX6_build 76 = .ok (.iload_n 1, 1) := by decide +kernel
theorem dX6_build_77 : decode cX6_build 77 = .ok (.invokevirtual 173, 3) := by decide +kernel
theorem dX6_build_80 : decode cX6_build 80 = .ok (.iastore, 1) := by decide +kernel
theorem dX6_build_81 : decode cX6_build 81 = .ok (.iinc 2 1, 3) := by decide +kernel
theorem dX6_build_84 : decode cX6_build 84 = .ok (.goto (-56), 3) := by decide +kernel
theorem dX6_build_87 : decode cX6_build 87 = .ok (.aload_n 0, 1) := by decide +kernel
theorem dX6_build_88 : decode cX6_build 88 = .ok (.getfield 55, 3) := by decide +kernel
theorem dX6_build_91 : decode cX6_build 91 = .ok (.invokevirtual 137, 3) := by decide +kernel
theorem dX6_build_94 : decode cX6_build 94 = .ok (.aload_n 0, 1) := by decide +kernel
theorem dX6_build_95 : decode cX6_build 95 = .ok (.getfield 79, 3) := by decide +kernel
theorem dX6_build_98 : decode cX6_build 98 = .ok (.aload_n 0, 1) := by decide +kernel
theorem dX6_build_99 : decode cX6_build 99 = .ok (.getfield 42, 3) := by decide +kernel
theorem dX6_build_102 : decode cX6_build 102 = .ok (.aload_n 0, 1) := by decide +kernel
theorem dX6_build_103 : decode cX6_build 103 = .ok (.getfield 42, 3) := by decide +kernel
theorem dX6_build_106 : decode cX6_build 106 = .ok (.aload_n 0, 1) := by decide +kernel
theorem dX6_build_107 : decode cX6_build 107 = .ok (.getfield 55, 3) := by decide +kernel
theorem dX6_build_110 : decode cX6_build 110 = .ok (.invokevirtual 148, 3) := by decide +kernel
theorem dX6_build_113 : decode cX6_build 113 = .ok (.iload_n 1, 1) := by decide +kernel
theorem dX6_build_114 : decode cX6_build 114 = .ok (.aload_n 0, 1) := by decide +kernel
theorem dX6_build_115 : decode cX6_build 115 = .ok (.getfield 72, 3) := by decide +kernel
theorem dX6_build_118 : decode cX6_build 118 = .ok (.aload_n 0, 1) := by decide +kernel
theorem dX6_build_119 : decode cX6_build 119 = .ok (.getfield 65, 3) := by decide +kernel
theorem dX6_build_122 : decode cX6_build 122 = .ok (.invokevirtual 176, 3) := by decide +kernel
theorem dX6_build_125 : decode cX6_build 125 = .ok (.ireturn, 1) := by decide +kernel
set_option maxRecDepth 20000 in
theorem ggX6_value_X1_stateCount : GoodIn wsX6_value wsX1_stateCount := goodIn_r _ [7, 8, 9, 39, 40, 41, 42, 43, 44, 45, 46] (by decide +kernel) (by decide +kernel)
set_option maxRecDepth 20000 in
theorem gX6_value_X1_stateCount : GoodIn wsX6_value (wsV RX6 140 RX1 yX1_stateCount wsX1_stateCount) := goodIn_app (goodIn_of _ (by decide +kernel)) ggX6_value_X1_stateCount
set_option maxRecDepth 20000 in
theorem ggX6_value_X6_requireIndex : GoodIn wsX6_value wsX6_requireIndex := goodIn_r _ [13, 14, 15, 16, 47, 48, 49, 50, 51, 52] (by decide +kernel) (by decide +kernel)
set_option maxRecDepth 20000 in
theorem gX6_value_X6_requireIndex : GoodIn wsX6_value (va_wsS RX6 96 yX6_requireIndex wsX6_requireIndex) := goodIn_app (goodIn_of _ (by decide +kernel)) ggX6_value_X6_requireIndex
set_option maxRecDepth 20000 in
theorem ggX6_value_X5_look : GoodIn wsX6_value wsX5_look := goodIn_ca (goodIn_r _ [21, 22, 23, 53, 54, 55, 56, 57, 58] (by decide +kernel) (by decide +kernel)) (goodIn_sub (fun _ h => List.mem_cons_of_mem _ (List.mem_append_right _ h)) (by decide +kernel))
set_option maxRecDepth 20000 in
theorem gX6_value_X5_look : GoodIn wsX6_value (wsV RX6 180 RX5 yX5_look wsX5_look) := goodIn_app (goodIn_of _ (by decide +kernel)) ggX6_value_X5_look
theorem dX6_value_0 : decode cX6_value 0 = .ok (.iload_n 1, 1) := by decide +kernel
theorem dX6_value_1 : decode cX6_value 1 = .ok (.aload_n 0, 1) := by decide +kernel
theorem dX6_value_2 : decode cX6_value 2 = .ok (.getfield 42, 3) := by decide +kernel
theorem dX6_value_5 : decode cX6_value 5 = .ok (.invokevirtual 140, 3) := by decide +kernel
theorem dX6_value_8 : decode cX6_value 8 = .ok (.invokestatic 96, 3) := by decide +kernel
theorem dX6_value_11 : decode cX6_value 11 = .ok (.aload_n 0, 1) := by decide +kernel
theorem dX6_value_12 : decode cX6_value 12 = .ok (.getfield 79, 3) := by decide +kernel
theorem dX6_value_15 : decode cX6_value 15 = .ok (.iload_n 1, 1) := by decide +kernel
theorem dX6_value_16 : decode cX6_value 16 = .ok (.invokevirtual 180, 3) := by decide +kernel
theorem dX6_value_19 : decode cX6_value 19 = .ok (.ireturn, 1) := by decide +kernel
set_option maxRecDepth 20000 in
theorem ggX6_count_X5_having : GoodIn wsX6_count wsX5_having := goodIn_ca (goodIn_r _ [6, 7, 8, 9, 10, 11, 12, 13, 5, 14, 30, 31, 32, 33, 34, 35] (by decide +kernel) (by decide +kernel)) (goodIn_sub (fun _ h => List.mem_cons_of_mem _ (List.mem_append_right _ h)) (by decide +kernel))
set_option maxRecDepth 20000 in
theorem gX6_count_X5_having : GoodIn wsX6_count (wsV RX6 188 RX5 yX5_having wsX5_having) := goodIn_app (goodIn_of _ (by decide +kernel)) ggX6_count_X5_having
theorem dX6_count_0 : decode cX6_count 0 = .ok (.aload_n 0, 1) := by decide +kernel
theorem dX6_count_1 : decode cX6_count 1 = .ok (.getfield 79, 3) := by decide +kernel
theorem dX6_count_4 : decode cX6_count 4 = .ok (.getfield 184, 3) := by decide +kernel
theorem dX6_count_7 : decode cX6_count 7 = .ok (.ifCond .eq 14, 3) := by decide +kernel
theorem dX6_count_10 : decode cX6_count 10 = .ok (.aload_n 0, 1) := by decide +kernel
theorem dX6_count_11 : decode cX6_count 11 = .ok (.getfield 79, 3) := by decide +kernel
theorem dX6_count_14 : decode cX6_count 14 = .ok (.iload_n 1, 1) := by decide +kernel
theorem dX6_count_15 : decode cX6_count 15 = .ok (.invokevirtual 188, 3) := by decide +kernel
theorem dX6_count_18 : decode cX6_count 18 = .ok (.goto 4, 3) := by decide +kernel
theorem dX6_count_21 : decode cX6_count 21 = .ok (.iconst (-1), 1) := by decide +kernel
theorem dX6_count_22 : decode cX6_count 22 = .ok (.ireturn, 1) := by decide +kernel
set_option maxRecDepth 20000 in
theorem ggX6_packed_X5_word : GoodIn wsX6_packed wsX5_word := goodIn_ca (goodIn_r _ [8, 9, 10, 11, 12, 7, 13, 14, 15, 16, 17, 18, 19, 20, 21, 22, 38, 39, 40, 41, 42, 43] (by decide +kernel) (by decide +kernel)) (goodIn_sub (fun _ h => List.mem_cons_of_mem _ (List.mem_append_right _ h)) (by decide +kernel))
set_option maxRecDepth 20000 in
theorem gX6_packed_X5_word : GoodIn wsX6_packed (wsV RX6 193 RX5 yX5_word wsX5_word) := goodIn_app (goodIn_of _ (by decide +kernel)) ggX6_packed_X5_word
theorem dX6_packed_0 : decode cX6_packed 0 = .ok (.iload_n 1, 1) := by decide +kernel
theorem dX6_packed_1 : decode cX6_packed 1 = .ok (.iconst 2, 1) := by decide +kernel
theorem dX6_packed_2 : decode cX6_packed 2 = .ok (.if_icmp .eq 18, 3) := by decide +kernel
theorem dX6_packed_5 : decode cX6_packed 5 = .ok (.iload_n 1, 1) := by decide +kernel
theorem dX6_packed_6 : decode cX6_packed 6 = .ok (.iconst 4, 1) := by decide +kernel
theorem dX6_packed_7 : decode cX6_packed 7 = .ok (.if_icmp .eq 13, 3) := by decide +kernel
theorem dX6_packed_10 : decode cX6_packed 10 = .ok (.new 109, 3) := by decide +kernel
theorem dX6_packed_13 : decode cX6_packed 13 = .ok (.dup, 1) := by decide +kernel
theorem dX6_packed_14 : decode cX6_packed 14 = .ok (.ldc 191, 2) := by decide +kernel
theorem dX6_packed_16 : decode cX6_packed 16 = .ok (.invokespecial 113, 3) := by decide +kernel
theorem dX6_packed_19 : decode cX6_packed 19 = .ok (.athrow, 1) := by decide +kernel
theorem dX6_packed_20 : decode cX6_packed 20 = .ok (.aload_n 0, 1) := by decide +kernel
theorem dX6_packed_21 : decode cX6_packed 21 = .ok (.getfield 79, 3) := by decide +kernel
theorem dX6_packed_24 : decode cX6_packed 24 = .ok (.getfield 184, 3) := by decide +kernel
theorem dX6_packed_27 : decode cX6_packed 27 = .ok (.ifCond .eq 15, 3) := by decide +kernel
theorem dX6_packed_30 : decode cX6_packed 30 = .ok (.aload_n 0, 1) := by decide +kernel
theorem dX6_packed_31 : decode cX6_packed 31 = .ok (.getfield 79, 3) := by decide +kernel
theorem dX6_packed_34 : decode cX6_packed 34 = .ok (.iload_n 1, 1) := by decide +kernel
theorem dX6_packed_35 : decode cX6_packed 35 = .ok (.iload_n 2, 1) := by decide +kernel
theorem dX6_packed_36 : decode cX6_packed 36 = .ok (.invokevirtual 193, 3) := by decide +kernel
theorem dX6_packed_39 : decode cX6_packed 39 = .ok (.goto 4, 3) := by decide +kernel
theorem dX6_packed_42 : decode cX6_packed 42 = .ok (.lconst 0, 1) := by decide +kernel
theorem dX6_packed_43 : decode cX6_packed 43 = .ok (.lreturn, 1) := by decide +kernel
set_option maxRecDepth 20000 in
theorem ggX6_down_X1_numberOf : GoodIn wsX6_down wsX1_numberOf := goodIn_ca (goodIn_r _ [9, 10, 11, 12, 13, 14, 15, 16, 17, 18, 19, 20, 83, 84, 85, 86, 87, 88, 89, 90, 91, 92] (by decide +kernel) (by decide +kernel)) (goodIn_sub (fun _ h => List.mem_cons_of_mem _ (List.mem_append_right _ h)) (by decide +kernel))
set_option maxRecDepth 20000 in
theorem gX6_down_X1_numberOf : GoodIn wsX6_down (wsV RX6 148 RX1 yX1_numberOf wsX1_numberOf) := goodIn_app (goodIn_of _ (by decide +kernel)) ggX6_down_X1_numberOf
set_option maxRecDepth 20000 in
theorem ggX6_down_X5_look : GoodIn wsX6_down wsX5_look := goodIn_ca (goodIn_r _ [25, 26, 27, 93, 94, 95, 96, 97, 98] (by decide +kernel) (by decide +kernel)) (goodIn_sub (fun _ h => List.mem_cons_of_mem _ (List.mem_append_right _ h)) (by decide +kernel))
set_option maxRecDepth 20000 in
theorem gX6_down_X5_look : GoodIn wsX6_down (wsV RX6 180 RX5 yX5_look wsX5_look) := goodIn_app (goodIn_of _ (by decide +kernel)) ggX6_down_X5_look
set_option maxRecDepth 20000 in
theorem ggX6_down_X6_fewestTimes : GoodIn wsX6_down wsX6_fewestTimes := goodIn_ca (goodIn_r _ [32, 1, 33, 3, 34, 2, 35, 36, 37, 31, 38, 39, 40, 41, 42, 43, 44, 45, 46, 47, 48, 49, 50, 51, 52, 53, 54, 55, 56, 57, 58, 59, 60, 61, 62, 63, 64, 65, 66, 67, 5, 6, 7, 8, 9, 10, 11, 12, 13, 14, 15, 16, 17, 18, 19, 20, 21, 22, 23, 24, 25, 26, 27, 68, 69, 70, 71, 72, 73, 74, 75, 76, 77, 78, 79, 80, 81, 82, 93, 94, 95, 96, 97, 98, 91, 92, 99, 100, 101, 83, 84, 85, 86, 87, 88, 89, 90] (by decide +kernel) (by decide +kernel)) (goodIn_sub (fun _ h => List.mem_cons_of_mem _ (List.mem_append_right _ h)) (by decide +kernel))
set_option maxRecDepth 20000 in
theorem gX6_down_X6_fewestTimes : GoodIn wsX6_down (wsV RX6 197 RX6 yX6_fewestTimes wsX6_fewestTimes) := goodIn_app (goodIn_of _ (by decide +kernel)) ggX6_down_X6_fewestTimes
theorem dX6_down_0 : decode cX6_down 0 = .ok (.aload_n 0, 1) := by decide +kernel
theorem dX6_down_1 : decode cX6_down 1 = .ok (.getfield 79, 3) := by decide +kernel
theorem dX6_down_4 : decode cX6_down 4 = .ok (.aload_n 0, 1) := by decide +kernel
theorem dX6_down_5 : decode cX6_down 5 = .ok (.getfield 42, 3) := by decide +kernel
theorem dX6_down_8 : decode cX6_down 8 = .ok (.aload_n 0, 1) := by decide +kernel
theorem dX6_down_9 : decode cX6_down 9 = .ok (.getfield 51, 3) := by decide +kernel
theorem dX6_down_12 : decode cX6_down 12 = .ok (.invokevirtual 148, 3) := by decide +kernel
theorem dX6_down_15 : decode cX6_down 15 = .ok (.invokevirtual 180, 3) := by decide +kernel
theorem dX6_down_18 : decode cX6_down 18 = .ok (.istore_n 1, 1) := by decide +kernel
theorem dX6_down_19 : decode cX6_down 19 = .ok (.iload_n 1, 1) := by decide +kernel
theorem dX6_down_20 : decode cX6_down 20 = .ok (.ifCond .gt 5, 3) := by decide +kernel
theorem dX6_down_23 : decode cX6_down 23 = .ok (.iconst (-1), 1) := by decide +kernel
theorem dX6_down_24 : decode cX6_down 24 = .ok (.ireturn, 1) := by decide +kernel
theorem dX6_down_25 : decode cX6_down 25 = .ok (.iload_n 1, 1) := by decide +kernel
theorem dX6_down_26 : decode cX6_down 26 = .ok (.iconst 1, 1) := by decide +kernel
theorem dX6_down_27 : decode cX6_down 27 = .ok (.isub, 1) := by decide +kernel
theorem dX6_down_28 : decode cX6_down 28 = .ok (.iconst 3, 1) := by decide +kernel
theorem dX6_down_29 : decode cX6_down 29 = .ok (.irem, 1) := by decide +kernel
theorem dX6_down_30 : decode cX6_down 30 = .ok (.istore_n 2, 1) := by decide +kernel
theorem dX6_down_31 : decode cX6_down 31 = .ok (.iconst 0, 1) := by decide +kernel
theorem dX6_down_32 : decode cX6_down 32 = .ok (.istore_n 3, 1) := by decide +kernel
theorem dX6_down_33 : decode cX6_down 33 = .ok (.iload_n 3, 1) := by decide +kernel
theorem dX6_down_34 : decode cX6_down 34 = .ok (.aload_n 0, 1) := by decide +kernel
theorem dX6_down_35 : decode cX6_down 35 = .ok (.getfield 90, 3) := by decide +kernel
theorem dX6_down_38 : decode cX6_down 38 = .ok (.if_icmp .ge 30, 3) := by decide +kernel
theorem dX6_down_41 : decode cX6_down 41 = .ok (.aload_n 0, 1) := by decide +kernel
theorem dX6_down_42 : decode cX6_down 42 = .ok (.iload_n 3, 1) := by decide +kernel
theorem dX6_down_43 : decode cX6_down 43 = .ok (.iload_n 2, 1) := by decide +kernel
theorem dX6_down_44 : decode cX6_down 44 = .ok (.invokevirtual 197, 3) := by decide +kernel
theorem dX6_down_47 : decode cX6_down 47 = .ok (.istore 4, 2) := by decide +kernel
theorem dX6_down_49 : decode cX6_down 49 = .ok (.iload 4, 2) := by decide +kernel
theorem dX6_down_51 : decode cX6_down 51 = .ok (.ifCond .le 11, 3) := by decide +kernel
theorem dX6_down_54 : decode cX6_down 54 = .ok (.bipush 16, 2) := by decide +kernel
theorem dX6_down_56 : decode cX6_down 56 = .ok (.iload_n 3, 1) := by decide +kernel
theorem dX6_down_57 : decode cX6_down 57 = .ok (.imul, 1) := by decide +kernel
theorem dX6_down_58 : decode cX6_down 58 = .ok (.iload 4, 2) := by decide +kernel
theorem dX6_down_60 : decode cX6_down 60 = .ok (.iadd, 1) := by decide +kernel
theorem dX6_down_61 : decode cX6_down 61 = .ok (.ireturn, 1) := by decide +kernel
theorem dX6_down_62 : decode cX6_down 62 = .ok (.iinc 3 1, 3) := by decide +kernel
theorem dX6_down_65 : decode cX6_down 65 = .ok (.goto (-32), 3) := by decide +kernel
theorem dX6_down_68 : decode cX6_down 68 = .ok (.iconst (-1), 1) := by decide +kernel
theorem dX6_down_69 : decode cX6_down 69 = .ok (.ireturn, 1) := by decide +kernel
set_option maxRecDepth 20000 in
theorem ggX6_symmetry_X6_leaveAll : GoodIn wsX6_symmetry wsX6_leaveAll := goodIn_ca (goodIn_r _ [7] (by decide +kernel) (by decide +kernel)) (goodIn_sub (fun _ h => List.mem_cons_of_mem _ (List.mem_append_right _ h)) (by decide +kernel))
set_option maxRecDepth 20000 in
theorem gX6_symmetry_X6_leaveAll : GoodIn wsX6_symmetry (va_wsS RX6 203 yX6_leaveAll wsX6_leaveAll) := goodIn_app (goodIn_of _ (by decide +kernel)) ggX6_symmetry_X6_leaveAll
set_option maxRecDepth 20000 in
theorem ggX6_symmetry_X2_forget : GoodIn wsX6_symmetry wsX2_forget := goodIn_r _ [12, 13, 29, 30, 31, 32, 33, 34, 35, 36] (by decide +kernel) (by decide +kernel)
set_option maxRecDepth 20000 in
theorem gX6_symmetry_X2_forget : GoodIn wsX6_symmetry (wsV RX6 134 RX2 yX2_forget wsX2_forget) := goodIn_app (goodIn_of _ (by decide +kernel)) ggX6_symmetry_X2_forget
