theorem dX7_turn_31 : decode cX7_turn 31 = .ok (.goto 4, 3) := by decide +kernel
theorem dX7_turn_34 : decode cX7_turn 34 = .ok (.iconst 0, 1) := by decide +kernel
theorem dX7_turn_35 : decode cX7_turn 35 = .ok (.invokevirtual 75, 3) := by decide +kernel
theorem dX7_turn_38 : decode cX7_turn 38 = .ok (.ifCond .ne 8, 3) := by decide +kernel
theorem dX7_turn_41 : decode cX7_turn 41 = .ok (.iload_n 2, 1) := by decide +kernel
theorem dX7_turn_42 : decode cX7_turn 42 = .ok (.iload_n 3, 1) := by decide +kernel
theorem dX7_turn_43 : decode cX7_turn 43 = .ok (.if_icmp .ne 5, 3) := by decide +kernel
theorem dX7_turn_46 : decode cX7_turn 46 = .ok (.iconst 0, 1) := by decide +kernel
theorem dX7_turn_47 : decode cX7_turn 47 = .ok (.ireturn, 1) := by decide +kernel
theorem dX7_turn_48 : decode cX7_turn 48 = .ok (.aload_n 0, 1) := by decide +kernel
theorem dX7_turn_49 : decode cX7_turn 49 = .ok (.getfield 39, 3) := by decide +kernel
theorem dX7_turn_52 : decode cX7_turn 52 = .ok (.bipush 8, 2) := by decide +kernel
theorem dX7_turn_54 : decode cX7_turn 54 = .ok (.iload_n 1, 1) := by decide +kernel
theorem dX7_turn_55 : decode cX7_turn 55 = .ok (.imul, 1) := by decide +kernel
theorem dX7_turn_56 : decode cX7_turn 56 = .ok (.iload_n 2, 1) := by decide +kernel
theorem dX7_turn_57 : decode cX7_turn 57 = .ok (.iadd, 1) := by decide +kernel
theorem dX7_turn_58 : decode cX7_turn 58 = .ok (.iaload, 1) := by decide +kernel
theorem dX7_turn_59 : decode cX7_turn 59 = .ok (.istore 4, 2) := by decide +kernel
theorem dX7_turn_61 : decode cX7_turn 61 = .ok (.aload_n 0, 1) := by decide +kernel
theorem dX7_turn_62 : decode cX7_turn 62 = .ok (.getfield 39, 3) := by decide +kernel
theorem dX7_turn_65 : decode cX7_turn 65 = .ok (.bipush 8, 2) := by decide +kernel
theorem dX7_turn_67 : decode cX7_turn 67 = .ok (.iload_n 1, 1) := by decide +kernel
theorem dX7_turn_68 : decode cX7_turn 68 = .ok (.imul, 1) := by decide +kernel
theorem dX7_turn_69 : decode cX7_turn 69 = .ok (.iload_n 2, 1) := by decide +kernel
theorem dX7_turn_70 : decode cX7_turn 70 = .ok (.iadd, 1) := by decide +kernel
theorem dX7_turn_71 : decode cX7_turn 71 = .ok (.aload_n 0, 1) := by decide +kernel
theorem dX7_turn_72 : decode cX7_turn 72 = .ok (.getfield 39, 3) := by decide +kernel
theorem dX7_turn_75 : decode cX7_turn 75 = .ok (.bipush 8, 2) := by decide +kernel
theorem dX7_turn_77 : decode cX7_turn 77 = .ok (.iload_n 1, 1) := by decide +kernel
theorem dX7_turn_78 : decode cX7_turn 78 = .ok (.imul, 1) := by decide +kernel
theorem dX7_turn_79 : decode cX7_turn 79 = .ok (.iload_n 3, 1) := by decide +kernel
theorem dX7_turn_80 : decode cX7_turn 80 = .ok (.iadd, 1) := by decide +kernel
theorem dX7_turn_81 : decode cX7_turn 81 = .ok (.iaload, 1) := by decide +kernel
theorem dX7_turn_82 : decode cX7_turn 82 = .ok (.iastore, 1) := by decide +kernel
theorem dX7_turn_83 : decode cX7_turn 83 = .ok (.aload_n 0, 1) := by decide +kernel
theorem dX7_turn_84 : decode cX7_turn 84 = .ok (.getfield 39, 3) := by decide +kernel
theorem dX7_turn_87 : decode cX7_turn 87 = .ok (.bipush 8, 2) := by decide +kernel
theorem dX7_turn_89 : decode cX7_turn 89 = .ok (.iload_n 1, 1) := by decide +kernel
theorem dX7_turn_90 : decode cX7_turn 90 = .ok (.imul, 1) := by decide +kernel
theorem dX7_turn_91 : decode cX7_turn 91 = .ok (.iload_n 3, 1) := by decide +kernel
theorem dX7_turn_92 : decode cX7_turn 92 = .ok (.iadd, 1) := by decide +kernel
theorem dX7_turn_93 : decode cX7_turn 93 = .ok (.iload 4, 2) := by decide +kernel
theorem dX7_turn_95 : decode cX7_turn 95 = .ok (.iastore, 1) := by decide +kernel
theorem dX7_turn_96 : decode cX7_turn 96 = .ok (.iconst 1, 1) := by decide +kernel
theorem dX7_turn_97 : decode cX7_turn 97 = .ok (.ireturn, 1) := by decide +kernel
theorem dX7_isTaken_0 : decode cX7_isTaken 0 = .ok (.iconst 0, 1) := by decide +kernel
theorem dX7_isTaken_1 : decode cX7_isTaken 1 = .ok (.istore 4, 2) := by decide +kernel
theorem dX7_isTaken_3 : decode cX7_isTaken 3 = .ok (.iload 4, 2) := by decide +kernel
theorem dX7_isTaken_5 : decode cX7_isTaken 5 = .ok (.aload_n 0, 1) := by decide +kernel
theorem dX7_isTaken_6 : decode cX7_isTaken 6 = .ok (.getfield 51, 3) := by decide +kernel
theorem dX7_isTaken_9 : decode cX7_isTaken 9 = .ok (.if_icmp .ge 89, 3) := by decide +kernel
theorem dX7_isTaken_12 : decode cX7_isTaken 12 = .ok (.aload_n 0, 1) := by decide +kernel
theorem dX7_isTaken_13 : decode cX7_isTaken 13 = .ok (.getfield 39, 3) := by decide +kernel
theorem dX7_isTaken_16 : decode cX7_isTaken 16 = .ok (.bipush 8, 2) := by decide +kernel
theorem dX7_isTaken_18 : decode cX7_isTaken 18 = .ok (.iload_n 1, 1) := by decide +kernel
theorem dX7_isTaken_19 : decode cX7_isTaken 19 = .ok (.imul, 1) := by decide +kernel
theorem dX7_isTaken_20 : decode cX7_isTaken 20 = .ok (.iload 4, 2) := by decide +kernel
theorem dX7_isTaken_22 : decode cX7_isTaken 22 = .ok (.iadd, 1) := by decide +kernel
theorem dX7_isTaken_23 : decode cX7_isTaken 23 = .ok (.iaload, 1) := by decide +kernel
theorem dX7_isTaken_24 : decode cX7_isTaken 24 = .ok (.istore 5, 2) := by decide +kernel
theorem dX7_isTaken_26 : decode cX7_isTaken 26 = .ok (.aload_n 0, 1) := by decide +kernel
theorem dX7_isTaken_27 : decode cX7_isTaken 27 = .ok (.getfield 7, 3) := by decide +kernel
theorem dX7_isTaken_30 : decode cX7_isTaken 30 = .ok (.bipush 8, 2) := by decide +kernel
theorem dX7_isTaken_32 : decode cX7_isTaken 32 = .ok (.iload_n 3, 1) := by decide +kernel
theorem dX7_isTaken_33 : decode cX7_isTaken 33 = .ok (.imul, 1) := by decide +kernel
theorem dX7_isTaken_34 : decode cX7_isTaken 34 = .ok (.iload 5, 2) := by decide +kernel
theorem dX7_isTaken_36 : decode cX7_isTaken 36 = .ok (.iadd, 1) := by decide +kernel
theorem dX7_isTaken_37 : decode cX7_isTaken 37 = .ok (.iaload, 1) := by decide +kernel
theorem dX7_isTaken_38 : decode cX7_isTaken 38 = .ok (.aload_n 0, 1) := by decide +kernel
theorem dX7_isTaken_39 : decode cX7_isTaken 39 = .ok (.getfield 39, 3) := by decide +kernel
theorem dX7_isTaken_42 : decode cX7_isTaken 42 = .ok (.bipush 8, 2) := by decide +kernel
theorem dX7_isTaken_44 : decode cX7_isTaken 44 = .ok (.iload_n 1, 1) := by decide +kernel
theorem dX7_isTaken_45 : decode cX7_isTaken 45 = .ok (.imul, 1) := by decide +kernel
theorem dX7_isTaken_46 : decode cX7_isTaken 46 = .ok (.aload_n 0, 1) := by decide +kernel
theorem dX7_isTaken_47 : decode cX7_isTaken 47 = .ok (.getfield 7, 3) := by decide +kernel
theorem dX7_isTaken_50 : decode cX7_isTaken 50 = .ok (.bipush 8, 2) := by decide +kernel
theorem dX7_isTaken_52 : decode cX7_isTaken 52 = .ok (.iload_n 2, 1) := by decide +kernel
theorem dX7_isTaken_53 : decode cX7_isTaken 53 = .ok (.imul, 1) := by decide +kernel
theorem dX7_isTaken_54 : decode cX7_isTaken 54 = .ok (.iload 4, 2) := by decide +kernel
theorem dX7_isTaken_56 : decode cX7_isTaken 56 = .ok (.iadd, 1) := by decide +kernel
theorem dX7_isTaken_57 : decode cX7_isTaken 57 = .ok (.iaload, 1) := by decide +kernel
theorem dX7_isTaken_58 : decode cX7_isTaken 58 = .ok (.iadd, 1) := by decide +kernel
theorem dX7_isTaken_59 : decode cX7_isTaken 59 = .ok (.iaload, 1) := by decide +kernel
theorem dX7_isTaken_60 : decode cX7_isTaken 60 = .ok (.if_icmp .ne 30, 3) := by decide +kernel
theorem dX7_isTaken_63 : decode cX7_isTaken 63 = .ok (.aload_n 0, 1) := by decide +kernel
theorem dX7_isTaken_64 : decode cX7_isTaken 64 = .ok (.getfield 13, 3) := by decide +kernel
theorem dX7_isTaken_67 : decode cX7_isTaken 67 = .ok (.bipush 8, 2) := by decide +kernel
theorem dX7_isTaken_69 : decode cX7_isTaken 69 = .ok (.iload_n 3, 1) := by decide +kernel
theorem dX7_isTaken_70 : decode cX7_isTaken 70 = .ok (.imul, 1) := by decide +kernel
theorem dX7_isTaken_71 : decode cX7_isTaken 71 = .ok (.iload 5, 2) := by decide +kernel
theorem dX7_isTaken_73 : decode cX7_isTaken 73 = .ok (.iadd, 1) := by decide +kernel
theorem dX7_isTaken_74 : decode cX7_isTaken 74 = .ok (.iaload, 1) := by decide +kernel
theorem dX7_isTaken_75 : decode cX7_isTaken 75 = .ok (.aload_n 0, 1) := by decide +kernel
theorem dX7_isTaken_76 : decode cX7_isTaken 76 = .ok (.getfield 13, 3) := by decide +kernel
theorem dX7_isTaken_79 : decode cX7_isTaken 79 = .ok (.bipush 8, 2) := by decide +kernel
theorem dX7_isTaken_81 : decode cX7_isTaken 81 = .ok (.iload_n 2, 1) := by decide +kernel
theorem dX7_isTaken_82 : decode cX7_isTaken 82 = .ok (.imul, 1) := by decide +kernel
theorem dX7_isTaken_83 : decode cX7_isTaken 83 = .ok (.iload 4, 2) := by decide +kernel
theorem dX7_isTaken_85 : decode cX7_isTaken 85 = .ok (.iadd, 1) := by decide +kernel
theorem dX7_isTaken_86 : decode cX7_isTaken 86 = .ok (.iaload, 1) := by decide +kernel
theorem dX7_isTaken_87 : decode cX7_isTaken 87 = .ok (.if_icmp .eq 5, 3) := by decide +kernel
theorem dX7_isTaken_90 : decode cX7_isTaken 90 = .ok (.iconst 0, 1) := by decide +kernel
theorem dX7_isTaken_91 : decode cX7_isTaken 91 = .ok (.ireturn, 1) := by decide +kernel
theorem dX7_isTaken_92 : decode cX7_isTaken 92 = .ok (.iinc 4 1, 3) := by decide +kernel
theorem dX7_isTaken_95 : decode cX7_isTaken 95 = .ok (.goto (-92), 3) := by decide +kernel
theorem dX7_isTaken_98 : decode cX7_isTaken 98 = .ok (.iconst 1, 1) := by decide +kernel
theorem dX7_isTaken_99 : decode cX7_isTaken 99 = .ok (.ireturn, 1) := by decide +kernel
set_option maxRecDepth 20000 in
theorem ggX7_isGood_X7_isTaken : GoodIn wsX7_isGood wsX7_isTaken := goodIn_ca (goodIn_r _ [9, 1, 3, 10, 11, 12, 13, 14, 15, 16, 17, 18, 19, 20, 21, 22, 23, 24, 25, 26, 27, 28, 29, 30, 31, 32, 33, 34] (by decide +kernel) (by decide +kernel)) (goodIn_sub (fun _ h => List.mem_cons_of_mem _ (List.mem_append_right _ h)) (by decide +kernel))
set_option maxRecDepth 20000 in
theorem gX7_isGood_X7_isTaken : GoodIn wsX7_isGood (wsV RX7 135 RX7 yX7_isTaken wsX7_isTaken) := goodIn_app (goodIn_of _ (by decide +kernel)) ggX7_isGood_X7_isTaken
theorem dX7_isGood_0 : decode cX7_isGood 0 = .ok (.iconst 0, 1) := by decide +kernel
theorem dX7_isGood_1 : decode cX7_isGood 1 = .ok (.istore_n 2, 1) := by decide +kernel
theorem dX7_isGood_2 : decode cX7_isGood 2 = .ok (.iload_n 2, 1) := by decide +kernel
theorem dX7_isGood_3 : decode cX7_isGood 3 = .ok (.aload_n 0, 1) := by decide +kernel
theorem dX7_isGood_4 : decode cX7_isGood 4 = .ok (.getfield 51, 3) := by decide +kernel
theorem dX7_isGood_7 : decode cX7_isGood 7 = .ok (.if_icmp .ge 36, 3) := by decide +kernel
theorem dX7_isGood_10 : decode cX7_isGood 10 = .ok (.aload_n 0, 1) := by decide +kernel
theorem dX7_isGood_11 : decode cX7_isGood 11 = .ok (.getfield 16, 3) := by decide +kernel
theorem dX7_isGood_14 : decode cX7_isGood 14 = .ok (.iload_n 2, 1) := by decide +kernel
theorem dX7_isGood_15 : decode cX7_isGood 15 = .ok (.baload, 1) := by decide +kernel
theorem dX7_isGood_16 : decode cX7_isGood 16 = .ok (.aload_n 0, 1) := by decide +kernel
theorem dX7_isGood_17 : decode cX7_isGood 17 = .ok (.getfield 16, 3) := by decide +kernel
theorem dX7_isGood_20 : decode cX7_isGood 20 = .ok (.aload_n 0, 1) := by decide +kernel
theorem dX7_isGood_21 : decode cX7_isGood 21 = .ok (.getfield 39, 3) := by decide +kernel
theorem dX7_isGood_24 : decode cX7_isGood 24 = .ok (.bipush 8, 2) := by decide +kernel
theorem dX7_isGood_26 : decode cX7_isGood 26 = .ok (.iload_n 1, 1) := by decide +kernel
theorem dX7_isGood_27 : decode cX7_isGood 27 = .ok (.imul, 1) := by decide +kernel
theorem dX7_isGood_28 : decode cX7_isGood 28 = .ok (.iload_n 2, 1) := by decide +kernel
theorem dX7_isGood_29 : decode cX7_isGood 29 = .ok (.iadd, 1) := by decide +kernel
theorem dX7_isGood_30 : decode cX7_isGood 30 = .ok (.iaload, 1) := by decide +kernel
theorem dX7_isGood_31 : decode cX7_isGood 31 = .ok (.baload, 1) := by decide +kernel
theorem dX7_isGood_32 : decode cX7_isGood 32 = .ok (.if_icmp .eq 5, 3) := by decide +kernel
theorem dX7_isGood_35 : decode cX7_isGood 35 = .ok (.iconst 0, 1) := by decide +kernel
theorem dX7_isGood_36 : decode cX7_isGood 36 = .ok (.ireturn, 1) := by decide +kernel
theorem dX7_isGood_37 : decode cX7_isGood 37 = .ok (.iinc 2 1, 3) := by decide +kernel
theorem dX7_isGood_40 : decode cX7_isGood 40 = .ok (.goto (-38), 3) := by decide +kernel
theorem dX7_isGood_43 : decode cX7_isGood 43 = .ok (.iconst 0, 1) := by decide +kernel
theorem dX7_isGood_44 : decode cX7_isGood 44 = .ok (.istore_n 2, 1) := by decide +kernel
theorem dX7_isGood_45 : decode cX7_isGood 45 = .ok (.iload_n 2, 1) := by decide +kernel
theorem dX7_isGood_46 : decode cX7_isGood 46 = .ok (.aload_n 0, 1) := by decide +kernel
theorem dX7_isGood_47 : decode cX7_isGood 47 = .ok (.getfield 61, 3) := by decide +kernel
theorem dX7_isGood_50 : decode cX7_isGood 50 = .ok (.if_icmp .ge 56, 3) := by decide +kernel
theorem dX7_isGood_53 : decode cX7_isGood 53 = .ok (.iconst 0, 1) := by decide +kernel
theorem dX7_isGood_54 : decode cX7_isGood 54 = .ok (.istore_n 3, 1) := by decide +kernel
theorem dX7_isGood_55 : decode cX7_isGood 55 = .ok (.iconst 0, 1) := by decide +kernel
theorem dX7_isGood_56 : decode cX7_isGood 56 = .ok (.istore 4, 2) := by decide +kernel
theorem dX7_isGood_58 : decode cX7_isGood 58 = .ok (.iload 4, 2) := by decide +kernel
theorem dX7_isGood_60 : decode cX7_isGood 60 = .ok (.aload_n 0, 1) := by decide +kernel
theorem dX7_isGood_61 : decode cX7_isGood 61 = .ok (.getfield 61, 3) := by decide +kernel
theorem dX7_isGood_64 : decode cX7_isGood 64 = .ok (.if_icmp .ge 30, 3) := by decide +kernel
theorem dX7_isGood_67 : decode cX7_isGood 67 = .ok (.iload_n 3, 1) := by decide +kernel
theorem dX7_isGood_68 : decode cX7_isGood 68 = .ok (.ifCond .ne 14, 3) := by decide +kernel
theorem dX7_isGood_71 : decode cX7_isGood 71 = .ok (.aload_n 0, 1) := by decide +kernel
theorem dX7_isGood_72 : decode cX7_isGood 72 = .ok (.iload_n 1, 1) := by decide +kernel
theorem dX7_isGood_73 : decode cX7_isGood 73 = .ok (.iload_n 2, 1) := by decide +kernel
theorem dX7_isGood_74 : decode cX7_isGood 74 = .ok (.iload 4, 2) := by decide +kernel
theorem dX7_isGood_76 : decode cX7_isGood 76 = .ok (.invokevirtual 135, 3) := by decide +kernel
theorem dX7_isGood_79 : decode cX7_isGood 79 = .ok (.ifCond .eq 7, 3) := by decide +kernel
theorem dX7_isGood_82 : decode cX7_isGood 82 = .ok (.iconst 1, 1) := by decide +kernel
theorem dX7_isGood_83 : decode cX7_isGood 83 = .ok (.goto 4, 3) := by decide +kernel
theorem dX7_isGood_86 : decode cX7_isGood 86 = .ok (.iconst 0, 1) := by decide +kernel
theorem dX7_isGood_87 : decode cX7_isGood 87 = .ok (.istore_n 3, 1) := by decide +kernel
theorem dX7_isGood_88 : decode cX7_isGood 88 = .ok (.iinc 4 1, 3) := by decide +kernel
theorem dX7_isGood_91 : decode cX7_isGood 91 = .ok (.goto (-33), 3) := by decide +kernel
theorem dX7_isGood_94 : decode cX7_isGood 94 = .ok (.iload_n 3, 1) := by decide +kernel
theorem dX7_isGood_95 : decode cX7_isGood 95 = .ok (.ifCond .ne 5, 3) := by decide +kernel
theorem dX7_isGood_98 : decode cX7_isGood 98 = .ok (.iconst 0, 1) := by decide +kernel
theorem dX7_isGood_99 : decode cX7_isGood 99 = .ok (.ireturn, 1) := by decide +kernel
theorem dX7_isGood_100 : decode cX7_isGood 100 = .ok (.iinc 2 1, 3) := by decide +kernel
theorem dX7_isGood_103 : decode cX7_isGood 103 = .ok (.goto (-58), 3) := by decide +kernel
theorem dX7_isGood_106 : decode cX7_isGood 106 = .ok (.iconst 1, 1) := by decide +kernel
theorem dX7_isGood_107 : decode cX7_isGood 107 = .ok (.ireturn, 1) := by decide +kernel
set_option maxRecDepth 20000 in
theorem ggX7_good_X7_throwsIf : GoodIn wsX7_good wsX7_throwsIf := goodIn_r _ [6, 7, 22, 23, 24, 25, 26, 27, 28, 29, 30, 31, 32, 33, 34, 35, 36, 37, 38, 39, 40, 41, 42, 43, 44] (by decide +kernel) (by decide +kernel)
set_option maxRecDepth 20000 in
theorem gX7_good_X7_throwsIf : GoodIn wsX7_good (wsV RX7 75 RX7 yX7_throwsIf wsX7_throwsIf) := goodIn_app (goodIn_of _ (by decide +kernel)) ggX7_good_X7_throwsIf
set_option maxRecDepth 20000 in
theorem ggX7_good_X7_isGood : GoodIn wsX7_good wsX7_isGood := goodIn_ca (goodIn_r _ [11, 12, 13, 14, 15, 16, 17, 18, 5, 19, 20, 21, 22, 23, 24, 25, 26, 27, 28, 29, 30, 31, 32, 33, 34, 35, 36, 37, 38, 39, 40, 41, 42, 43, 44] (by decide +kernel) (by decide +kernel)) (goodIn_sub (fun _ h => List.mem_cons_of_mem _ (List.mem_append_right _ h)) (by decide +kernel))
set_option maxRecDepth 20000 in
theorem gX7_good_X7_isGood : GoodIn wsX7_good (wsV RX7 139 RX7 yX7_isGood wsX7_isGood) := goodIn_app (goodIn_of _ (by decide +kernel)) ggX7_good_X7_isGood
theorem dX7_good_0 : decode cX7_good 0 = .ok (.aload_n 0, 1) := by decide +kernel
theorem dX7_good_1 : decode cX7_good 1 = .ok (.iconst 1, 1) := by decide +kernel
theorem dX7_good_2 : decode cX7_good 2 = .ok (.iload_n 1, 1) := by decide +kernel
theorem dX7_good_3 : decode cX7_good 3 = .ok (.ifCond .lt 11, 3) := by decide +kernel
theorem dX7_good_6 : decode cX7_good 6 = .ok (.iload_n 1, 1) := by decide +kernel
theorem dX7_good_7 : decode cX7_good 7 = .ok (.aload_n 0, 1) := by decide +kernel
theorem dX7_good_8 : decode cX7_good 8 = .ok (.getfield 132, 3) := by decide +kernel
theorem dX7_good_11 : decode cX7_good 11 = .ok (.if_icmp .lt 7, 3) := by decide +kernel
theorem dX7_good_14 : decode cX7_good 14 = .ok (.iconst 1, 1) := by decide +kernel
theorem dX7_good_15 : decode cX7_good 15 = .ok (.goto 4, 3) := by decide +kernel
theorem dX7_good_18 : decode cX7_good 18 = .ok (.iconst 0, 1) := by decide +kernel
theorem dX7_good_19 : decode cX7_good 19 = .ok (.invokevirtual 75, 3) := by decide +kernel
theorem dX7_good_22 : decode cX7_good 22 = .ok (.ifCond .ne 15, 3) := by decide +kernel
theorem dX7_good_25 : decode cX7_good 25 = .ok (.aload_n 0, 1) := by decide +kernel
theorem dX7_good_26 : decode cX7_good 26 = .ok (.iload_n 1, 1) := by decide +kernel
theorem dX7_good_27 : decode cX7_good 27 = .ok (.invokevirtual 139, 3) := by decide +kernel
theorem dX7_good_30 : decode cX7_good 30 = .ok (.ifCond .eq 7, 3) := by decide +kernel
theorem dX7_good_33 : decode cX7_good 33 = .ok (.iconst 1, 1) := by decide +kernel
theorem dX7_good_34 : decode cX7_good 34 = .ok (.goto 4, 3) := by decide +kernel
theorem dX7_good_37 : decode cX7_good 37 = .ok (.iconst 0, 1) := by decide +kernel
theorem dX7_good_38 : decode cX7_good 38 = .ok (.ireturn, 1) := by decide +kernel
set_option maxRecDepth 20000 in
theorem ggX7_imageOf_X7_take : GoodIn wsX7_imageOf wsX7_take := goodIn_ca (goodIn_r _ [12, 1, 5, 13, 3, 14, 15, 16, 17, 11, 18, 27, 28, 29, 30, 31, 32, 33, 34, 35, 36, 37, 38, 39, 40, 41, 42, 43, 44, 45, 46, 47, 48, 49] (by decide +kernel) (by decide +kernel)) (goodIn_sub (fun _ h => List.mem_cons_of_mem _ (List.mem_append_right _ h)) (by decide +kernel))
set_option maxRecDepth 20000 in
theorem gX7_imageOf_X7_take : GoodIn wsX7_imageOf (wsV RX7 106 RX7 yX7_take wsX7_take) := goodIn_app (goodIn_of _ (by decide +kernel)) ggX7_imageOf_X7_take
set_option maxRecDepth 20000 in
theorem ggX7_imageOf_X7_rankOf : GoodIn wsX7_imageOf wsX7_rankOf := goodIn_ca (goodIn_r _ [22, 1, 7, 27, 28, 29, 30, 31, 32, 33, 34, 35, 36, 37, 38, 39, 40, 41, 42, 43, 44, 45, 46, 47, 48, 49] (by decide +kernel) (by decide +kernel)) (goodIn_sub (fun _ h => List.mem_cons_of_mem _ (List.mem_append_right _ h)) (by decide +kernel))
set_option maxRecDepth 20000 in
theorem gX7_imageOf_X7_rankOf : GoodIn wsX7_imageOf (wsV RX7 110 RX7 yX7_rankOf wsX7_rankOf) := goodIn_app (goodIn_of _ (by decide +kernel)) ggX7_imageOf_X7_rankOf
set_option maxRecDepth 20000 in
theorem ggX7_imageOf_X7_numberOf : GoodIn wsX7_imageOf wsX7_numberOf := goodIn_ca (goodIn_r _ [26, 1, 3, 14, 13, 5, 15, 16, 17, 11, 18, 27, 28, 29, 30, 31, 32, 33, 34, 35, 36, 37, 38, 39, 40, 41, 42, 43, 44, 45, 46, 47, 48, 49] (by decide +kernel) (by decide +kernel)) (goodIn_sub (fun _ h => List.mem_cons_of_mem _ (List.mem_append_right _ h)) (by decide +kernel))
set_option maxRecDepth 20000 in
theorem gX7_imageOf_X7_numberOf : GoodIn wsX7_imageOf (wsV RX7 100 RX7 yX7_numberOf wsX7_numberOf) := goodIn_app (goodIn_of _ (by decide +kernel)) ggX7_imageOf_X7_numberOf
theorem dX7_imageOf_0 : decode cX7_imageOf 0 = .ok (.aload_n 0, 1) := by decide +kernel
theorem dX7_imageOf_1 : decode cX7_imageOf 1 = .ok (.iload_n 1, 1) := by decide +kernel
theorem dX7_imageOf_2 : decode cX7_imageOf 2 = .ok (.invokevirtual 106, 3) := by decide +kernel
theorem dX7_imageOf_5 : decode cX7_imageOf 5 = .ok (.iconst 0, 1) := by decide +kernel
theorem dX7_imageOf_6 : decode cX7_imageOf 6 = .ok (.istore_n 3, 1) := by decide +kernel
theorem dX7_imageOf_7 : decode cX7_imageOf 7 = .ok (.iload_n 3, 1) := by decide +kernel
theorem dX7_imageOf_8 : decode cX7_imageOf 8 = .ok (.aload_n 0, 1) := by decide +kernel
theorem dX7_imageOf_9 : decode cX7_imageOf 9 = .ok (.getfield 83, 3) := by decide +kernel
theorem dX7_imageOf_12 : decode cX7_imageOf 12 = .ok (.if_icmp .ge 33, 3) := by decide +kernel
theorem dX7_imageOf_15 : decode cX7_imageOf 15 = .ok (.aload_n 0, 1) := by decide +kernel
theorem dX7_imageOf_16 : decode cX7_imageOf 16 = .ok (.getfield 42, 3) := by decide +kernel
theorem dX7_imageOf_19 : decode cX7_imageOf 19 = .ok (.iload_n 3, 1) := by decide +kernel
theorem dX7_imageOf_20 : decode cX7_imageOf 20 = .ok (.aload_n 0, 1) := by decide +kernel
theorem dX7_imageOf_21 : decode cX7_imageOf 21 = .ok (.getfield 23, 3) := by decide +kernel
theorem dX7_imageOf_24 : decode cX7_imageOf 24 = .ok (.iload_n 3, 1) := by decide +kernel
theorem dX7_imageOf_25 : decode cX7_imageOf 25 = .ok (.iaload, 1) := by decide +kernel
theorem dX7_imageOf_26 : decode cX7_imageOf 26 = .ok (.iastore, 1) := by decide +kernel
theorem dX7_imageOf_27 : decode cX7_imageOf 27 = .ok (.aload_n 0, 1) := by decide +kernel
theorem dX7_imageOf_28 : decode cX7_imageOf 28 = .ok (.getfield 45, 3) := by decide +kernel
theorem dX7_imageOf_31 : decode cX7_imageOf 31 = .ok (.iload_n 3, 1) := by decide +kernel
theorem dX7_imageOf_32 : decode cX7_imageOf 32 = .ok (.aload_n 0, 1) := by decide +kernel
theorem dX7_imageOf_33 : decode cX7_imageOf 33 = .ok (.getfield 26, 3) := by decide +kernel
theorem dX7_imageOf_36 : decode cX7_imageOf 36 = .ok (.iload_n 3, 1) := by decide +kernel
theorem dX7_imageOf_37 : decode cX7_imageOf 37 = .ok (.iaload, 1) := by decide +kernel
theorem dX7_imageOf_38 : decode cX7_imageOf 38 = .ok (.iastore, 1) := by decide +kernel
theorem dX7_imageOf_39 : decode cX7_imageOf 39 = .ok (.iinc 3 1, 3) := by decide +kernel
theorem dX7_imageOf_42 : decode cX7_imageOf 42 = .ok (.goto (-35), 3) := by decide +kernel
theorem dX7_imageOf_45 : decode cX7_imageOf 45 = .ok (.iconst 0, 1) := by decide +kernel
theorem dX7_imageOf_46 : decode cX7_imageOf 46 = .ok (.istore_n 3, 1) := by decide +kernel
theorem dX7_imageOf_47 : decode cX7_imageOf 47 = .ok (.iload_n 3, 1) := by decide +kernel
theorem dX7_imageOf_48 : decode cX7_imageOf 48 = .ok (.aload_n 0, 1) := by decide +kernel
theorem dX7_imageOf_49 : decode cX7_imageOf 49 = .ok (.getfield 83, 3) := by decide +kernel
theorem dX7_imageOf_52 : decode cX7_imageOf 52 = .ok (.if_icmp .ge 67, 3) := by decide +kernel
theorem dX7_imageOf_55 : decode cX7_imageOf 55 = .ok (.aload_n 0, 1) := by decide +kernel
theorem dX7_imageOf_56 : decode cX7_imageOf 56 = .ok (.aload_n 0, 1) := by decide +kernel
theorem dX7_imageOf_57 : decode cX7_imageOf 57 = .ok (.getfield 39, 3) := by decide +kernel
theorem dX7_imageOf_60 : decode cX7_imageOf 60 = .ok (.bipush 8, 2) := by decide +kernel
theorem dX7_imageOf_62 : decode cX7_imageOf 62 = .ok (.iload_n 2, 1) := by decide +kernel
theorem dX7_imageOf_63 : decode cX7_imageOf 63 = .ok (.imul, 1) := by decide +kernel
theorem dX7_imageOf_64 : decode cX7_imageOf 64 = .ok (.aload_n 0, 1) := by decide +kernel
theorem dX7_imageOf_65 : decode cX7_imageOf 65 = .ok (.getfield 20, 3) := by decide +kernel
theorem dX7_imageOf_68 : decode cX7_imageOf 68 = .ok (.iload_n 3, 1) := by decide +kernel
theorem dX7_imageOf_69 : decode cX7_imageOf 69 = .ok (.iaload, 1) := by decide +kernel
theorem dX7_imageOf_70 : decode cX7_imageOf 70 = .ok (.iadd, 1) := by decide +kernel
theorem dX7_imageOf_71 : decode cX7_imageOf 71 = .ok (.iaload, 1) := by decide +kernel
theorem dX7_imageOf_72 : decode cX7_imageOf 72 = .ok (.invokevirtual 110, 3) := by decide +kernel
theorem dX7_imageOf_75 : decode cX7_imageOf 75 = .ok (.istore 4, 2) := by decide +kernel
theorem dX7_imageOf_77 : decode cX7_imageOf 77 = .ok (.aload_n 0, 1) := by decide +kernel
theorem dX7_imageOf_78 : decode cX7_imageOf 78 = .ok (.getfield 23, 3) := by decide +kernel
theorem dX7_imageOf_81 : decode cX7_imageOf 81 = .ok (.iload 4, 2) := by decide +kernel
theorem dX7_imageOf_83 : decode cX7_imageOf 83 = .ok (.aload_n 0, 1) := by decide +kernel
theorem dX7_imageOf_84 : decode cX7_imageOf 84 = .ok (.getfield 39, 3) := by decide +kernel
theorem dX7_imageOf_87 : decode cX7_imageOf 87 = .ok (.bipush 8, 2) := by decide +kernel
theorem dX7_imageOf_89 : decode cX7_imageOf 89 = .ok (.iload_n 2, 1) := by decide +kernel
theorem dX7_imageOf_90 : decode cX7_imageOf 90 = .ok (.imul, 1) := by decide +kernel
theorem dX7_imageOf_91 : decode cX7_imageOf 91 = .ok (.aload_n 0, 1) := by decide +kernel
theorem dX7_imageOf_92 : decode cX7_imageOf 92 = .ok (.getfield 42, 3) := by decide +kernel
theorem dX7_imageOf_95 : decode cX7_imageOf 95 = .ok (.iload_n 3, 1) := by decide +kernel
theorem dX7_imageOf_96 : decode cX7_imageOf 96 = .ok (.iaload, 1) := by decide +kernel
theorem dX7_imageOf_97 : decode cX7_imageOf 97 = .ok (.iadd, 1) := by decide +kernel
theorem dX7_imageOf_98 : decode cX7_imageOf 98 = .ok (.iaload, 1) := by decide +kernel
theorem dX7_imageOf_99 : decode cX7_imageOf 99 = .ok (.iastore, 1) := by decide +kernel
theorem dX7_imageOf_100 : decode cX7_imageOf 100 = .ok (.aload_n 0, 1) := by decide +kernel
theorem dX7_imageOf_101 : decode cX7_imageOf 101 = .ok (.getfield 26, 3) := by decide +kernel
theorem dX7_imageOf_104 : decode cX7_imageOf 104 = .ok (.iload 4, 2) := by decide +kernel
theorem dX7_imageOf_106 : decode cX7_imageOf 106 = .ok (.aload_n 0, 1) := by decide +kernel
theorem dX7_imageOf_107 : decode cX7_imageOf 107 = .ok (.getfield 45, 3) := by decide +kernel
theorem dX7_imageOf_110 : decode cX7_imageOf 110 = .ok (.iload_n 3, 1) := by decide +kernel
theorem dX7_imageOf_111 : decode cX7_imageOf 111 = .ok (.iaload, 1) := by decide +kernel
theorem dX7_imageOf_112 : decode cX7_imageOf 112 = .ok (.iastore, 1) := by decide +kernel
theorem dX7_imageOf_113 : decode cX7_imageOf 113 = .ok (.iinc 3 1, 3) := by decide +kernel
theorem dX7_imageOf_116 : decode cX7_imageOf 116 = .ok (.goto (-69), 3) := by decide +kernel
theorem dX7_imageOf_119 : decode cX7_imageOf 119 = .ok (.aload_n 0, 1) := by decide +kernel
theorem dX7_imageOf_120 : decode cX7_imageOf 120 = .ok (.invokevirtual 100, 3) := by decide +kernel
theorem dX7_imageOf_123 : decode cX7_imageOf 123 = .ok (.ireturn, 1) := by decide +kernel
set_option maxRecDepth 20000 in
theorem ggX7_markClass_X7_imageOf : GoodIn wsX7_markClass wsX7_imageOf := goodIn_ca (goodIn_r _ [9, 10, 11, 12, 13, 14, 15, 16, 17, 18, 19, 8, 20, 21, 22, 23, 24, 25, 26, 27, 28, 29, 30, 31, 32, 33, 34, 35, 36, 37, 38, 39, 40, 41, 42, 43, 44, 45, 46, 47, 48, 49, 50, 51, 52, 53, 54, 55, 56, 57] (by decide +kernel) (by decide +kernel)) (goodIn_sub (fun _ h => List.mem_cons_of_mem _ (List.mem_append_right _ h)) (by decide +kernel))
set_option maxRecDepth 20000 in
theorem gX7_markClass_X7_imageOf : GoodIn wsX7_markClass (wsV RX7 142 RX7 yX7_imageOf wsX7_imageOf) := goodIn_app (goodIn_of _ (by decide +kernel)) ggX7_markClass_X7_imageOf
theorem dX7_markClass_0 : decode cX7_markClass 0 = .ok (.iconst 1, 1) := by decide +kernel
theorem dX7_markClass_1 : decode cX7_markClass 1 = .ok (.istore_n 3, 1) := by decide +kernel
theorem dX7_markClass_2 : decode cX7_markClass 2 = .ok (.iload_n 1, 1) := by decide +kernel
theorem dX7_markClass_3 : decode cX7_markClass 3 = .ok (.istore 4, 2) := by decide +kernel
theorem dX7_markClass_5 : decode cX7_markClass 5 = .ok (.aload_n 0, 1) := by decide +kernel
theorem dX7_markClass_6 : decode cX7_markClass 6 = .ok (.getfield 33, 3) := by decide +kernel
theorem dX7_markClass_9 : decode cX7_markClass 9 = .ok (.iconst 0, 1) := by decide +kernel
theorem dX7_markClass_10 : decode cX7_markClass 10 = .ok (.iload_n 1, 1) := by decide +kernel
theorem dX7_markClass_11 : decode cX7_markClass 11 = .ok (.iastore, 1) := by decide +kernel
theorem dX7_markClass_12 : decode cX7_markClass 12 = .ok (.aload_n 0, 1) := by decide +kernel
theorem dX7_markClass_13 : decode cX7_markClass 13 = .ok (.getfield 36, 3) := by decide +kernel
theorem dX7_markClass_16 : decode cX7_markClass 16 = .ok (.iload_n 1, 1) := by decide +kernel
theorem dX7_markClass_17 : decode cX7_markClass 17 = .ok (.iload_n 2, 1) := by decide +kernel
theorem dX7_markClass_18 : decode cX7_markClass 18 = .ok (.iastore, 1) := by decide +kernel
theorem dX7_markClass_19 : decode cX7_markClass 19 = .ok (.iconst 0, 1) := by decide +kernel
theorem dX7_markClass_20 : decode cX7_markClass 20 = .ok (.istore 5, 2) := by decide +kernel
theorem dX7_markClass_22 : decode cX7_markClass 22 = .ok (.iload 5, 2) := by decide +kernel
theorem dX7_markClass_24 : decode cX7_markClass 24 = .ok (.iload_n 3, 1) := by decide +kernel
theorem dX7_markClass_25 : decode cX7_markClass 25 = .ok (.if_icmp .ge 114, 3) := by decide +kernel
theorem dX7_markClass_28 : decode cX7_markClass 28 = .ok (.aload_n 0, 1) := by decide +kernel
theorem dX7_markClass_29 : decode cX7_markClass 29 = .ok (.getfield 33, 3) := by decide +kernel
theorem dX7_markClass_32 : decode cX7_markClass 32 = .ok (.iload 5, 2) := by decide +kernel
theorem dX7_markClass_34 : decode cX7_markClass 34 = .ok (.iaload, 1) := by decide +kernel
theorem dX7_markClass_35 : decode cX7_markClass 35 = .ok (.iload 4, 2) := by decide +kernel
theorem dX7_markClass_37 : decode cX7_markClass 37 = .ok (.if_icmp .ge 13, 3) := by decide +kernel
theorem dX7_markClass_40 : decode cX7_markClass 40 = .ok (.aload_n 0, 1) := by decide +kernel
theorem dX7_markClass_41 : decode cX7_markClass 41 = .ok (.getfield 33, 3) := by decide +kernel
theorem dX7_markClass_44 : decode cX7_markClass 44 = .ok (.iload 5, 2) := by decide +kernel
theorem dX7_markClass_46 : decode cX7_markClass 46 = .ok (.iaload, 1) := by decide +kernel
theorem dX7_markClass_47 : decode cX7_markClass 47 = .ok (.goto 5, 3) := by decide +kernel
theorem dX7_markClass_50 : decode cX7_markClass 50 = .ok (.iload 4, 2) := by decide +kernel
theorem dX7_markClass_52 : decode cX7_markClass 52 = .ok (.istore 4, 2) := by decide +kernel
theorem dX7_markClass_54 : decode cX7_markClass 54 = .ok (.iconst 0, 1) := by decide +kernel
theorem dX7_markClass_55 : decode cX7_markClass 55 = .ok (.istore 6, 2) := by decide +kernel
theorem dX7_markClass_57 : decode cX7_markClass 57 = .ok (.iload 6, 2) := by decide +kernel
theorem dX7_markClass_59 : decode cX7_markClass 59 = .ok (.aload_n 0, 1) := by decide +kernel
theorem dX7_markClass_60 : decode cX7_markClass 60 = .ok (.getfield 132, 3) := by decide +kernel
theorem dX7_markClass_63 : decode cX7_markClass 63 = .ok (.if_icmp .ge 70, 3) := by decide +kernel
theorem dX7_markClass_66 : decode cX7_markClass 66 = .ok (.aload_n 0, 1) := by decide +kernel
theorem dX7_markClass_67 : decode cX7_markClass 67 = .ok (.getfield 48, 3) := by decide +kernel
theorem dX7_markClass_70 : decode cX7_markClass 70 = .ok (.iload 6, 2) := by decide +kernel
theorem dX7_markClass_72 : decode cX7_markClass 72 = .ok (.baload, 1) := by decide +kernel
theorem dX7_markClass_73 : decode cX7_markClass 73 = .ok (.ifCond .ne 6, 3) := by decide +kernel
theorem dX7_markClass_76 : decode cX7_markClass 76 = .ok (.goto 51, 3) := by decide +kernel
theorem dX7_markClass_79 : decode cX7_markClass 79 = .ok (.aload_n 0, 1) := by decide +kernel
theorem dX7_markClass_80 : decode cX7_markClass 80 = .ok (.aload_n 0, 1) := by decide +kernel
theorem dX7_markClass_81 : decode cX7_markClass 81 = .ok (.getfield 33, 3) := by decide +kernel
theorem dX7_markClass_84 : decode cX7_markClass 84 = .ok (.iload 5, 2) := by decide +kernel
theorem dX7_markClass_86 : decode cX7_markClass 86 = .ok (.iaload, 1) := by decide +kernel
theorem dX7_markClass_87 : decode cX7_markClass 87 = .ok (.iload 6, 2) := by decide +kernel
theorem dX7_markClass_89 : decode cX7_markClass 89 = .ok (.invokevirtual 142, 3) := by decide +kernel
theorem dX7_markClass_92 : decode cX7_markClass 92 = .ok (.istore 7, 2) := by decide +kernel
theorem dX7_markClass_94 : decode cX7_markClass 94 = .ok (.aload_n 0, 1) := by decide +kernel
theorem dX7_markClass_95 : decode cX7_markClass 95 = .ok (.getfield 36, 3) := by decide +kernel
theorem dX7_markClass_98 : decode cX7_markClass 98 = .ok (.iload 7, 2) := by decide +kernel
theorem dX7_markClass_100 : decode cX7_markClass 100 = .ok (.iaload, 1) := by decide +kernel
theorem dX7_markClass_101 : decode cX7_markClass 101 = .ok (.iload_n 2, 1) := by decide +kernel
theorem dX7_markClass_102 : decode cX7_markClass 102 = .ok (.if_icmp .ne 6, 3) := by decide +kernel
theorem dX7_markClass_105 : decode cX7_markClass 105 = .ok (.goto 22, 3) := by decide +kernel
theorem dX7_markClass_108 : decode cX7_markClass 108 = .ok (.aload_n 0, 1) := by decide +kernel
theorem dX7_markClass_109 : decode cX7_markClass 109 = .ok (.getfield 36, 3) := by decide +kernel
theorem dX7_markClass_112 : decode cX7_markClass 112 = .ok (.iload 7, 2) := by decide +kernel
theorem dX7_markClass_114 : decode cX7_markClass 114 = .ok (.iload_n 2, 1) := by decide +kernel
theorem dX7_markClass_115 : decode cX7_markClass 115 = .ok (.iastore, 1) := by decide +kernel
theorem dX7_markClass_116 : decode cX7_markClass 116 = .ok (.aload_n 0, 1) := by decide +kernel
theorem dX7_markClass_117 : decode cX7_markClass 117 = .ok (.getfield 33, 3) := by decide +kernel
theorem dX7_markClass_120 : decode cX7_markClass 120 = .ok (.iload_n 3, 1) := by decide +kernel
theorem dX7_markClass_121 : decode cX7_markClass 121 = .ok (.iload 7, 2) := by decide +kernel
theorem dX7_markClass_123 : decode cX7_markClass 123 = .ok (.iastore, 1) := by decide +kernel
theorem dX7_markClass_124 : decode cX7_markClass 124 = .ok (.iinc 3 1, 3) := by decide +kernel
theorem dX7_markClass_127 : decode cX7_markClass 127 = .ok (.iinc 6 1, 3) := by decide +kernel
theorem dX7_markClass_130 : decode cX7_markClass 130 = .ok (.goto (-73), 3) := by decide +kernel
theorem dX7_markClass_133 : decode cX7_markClass 133 = .ok (.iinc 5 1, 3) := by decide +kernel
theorem dX7_markClass_136 : decode cX7_markClass 136 = .ok (.goto (-114), 3) := by decide +kernel
theorem dX7_markClass_139 : decode cX7_markClass 139 = .ok (.iload 4, 2) := by decide +kernel
theorem dX7_markClass_141 : decode cX7_markClass 141 = .ok (.ireturn, 1) := by decide +kernel
set_option maxRecDepth 20000 in
theorem ggX7_prepare_X7_isGood : GoodIn wsX7_prepare wsX7_isGood := goodIn_ca (goodIn_r _ [8, 9, 10, 11, 12, 13, 14, 15, 7, 16, 17, 18, 25, 26, 27, 28, 29, 30, 31, 32, 33, 34, 35, 36, 37, 38, 39, 40, 41, 42, 43, 44, 45, 46, 47] (by decide +kernel) (by decide +kernel)) (goodIn_sub (fun _ h => List.mem_cons_of_mem _ (List.mem_append_right _ h)) (by decide +kernel))
set_option maxRecDepth 20000 in
theorem gX7_prepare_X7_isGood : GoodIn wsX7_prepare (wsV RX7 139 RX7 yX7_isGood wsX7_isGood) := goodIn_app (goodIn_of _ (by decide +kernel)) ggX7_prepare_X7_isGood
set_option maxRecDepth 20000 in
theorem ggX7_prepare_X7_countStates : GoodIn wsX7_prepare wsX7_countStates := goodIn_r _ [22, 23, 9, 24, 25, 26, 27, 28, 29, 30, 31, 32, 33, 34, 35, 36, 37, 38, 39, 40, 41, 42, 43, 44, 45, 46, 47] (by decide +kernel) (by decide +kernel)
set_option maxRecDepth 20000 in
theorem gX7_prepare_X7_countStates : GoodIn wsX7_prepare (wsV RX7 93 RX7 yX7_countStates wsX7_countStates) := goodIn_app (goodIn_of _ (by decide +kernel)) ggX7_prepare_X7_countStates
theorem dX7_prepare_0 : decode cX7_prepare 0 = .ok (.iconst 0, 1) := by decide +kernel
theorem dX7_prepare_1 : decode cX7_prepare 1 = .ok (.istore_n 1, 1) := by decide +kernel
theorem dX7_prepare_2 : decode cX7_prepare 2 = .ok (.iload_n 1, 1) := by decide +kernel
theorem dX7_prepare_3 : decode cX7_prepare 3 = .ok (.aload_n 0, 1) := by decide +kernel
theorem dX7_prepare_4 : decode cX7_prepare 4 = .ok (.getfield 132, 3) := by decide +kernel
theorem dX7_prepare_7 : decode cX7_prepare 7 = .ok (.if_icmp .ge 20, 3) := by decide +kernel
theorem dX7_prepare_10 : decode cX7_prepare 10 = .ok (.aload_n 0, 1) := by decide +kernel
theorem dX7_prepare_11 : decode cX7_prepare 11 = .ok (.getfield 48, 3) := by decide +kernel
theorem dX7_prepare_14 : decode cX7_prepare 14 = .ok (.iload_n 1, 1) := by decide +kernel
theorem dX7_prepare_15 : decode cX7_prepare 15 = .ok (.aload_n 0, 1) := by decide +kernel
theorem dX7_prepare_16 : decode cX7_prepare 16 = .ok (.iload_n 1, 1) := by decide +kernel
theorem dX7_prepare_17 : decode cX7_prepare 17 = .ok (.invokevirtual 139, 3) := by decide +kernel
theorem dX7_prepare_20 : decode cX7_prepare 20 = .ok (.bastore, 1) := by decide +kernel
theorem dX7_prepare_21 : decode cX7_prepare 21 = .ok (.iinc 1 1, 3) := by decide +kernel
theorem dX7_prepare_24 : decode cX7_prepare 24 = .ok (.goto (-22), 3) := by decide +kernel
theorem dX7_prepare_27 : decode cX7_prepare 27 = .ok (.iconst 0, 1) := by decide +kernel
theorem dX7_prepare_28 : decode cX7_prepare 28 = .ok (.istore_n 1, 1) := by decide +kernel
theorem dX7_prepare_29 : decode cX7_prepare 29 = .ok (.iload_n 1, 1) := by decide +kernel
theorem dX7_prepare_30 : decode cX7_prepare 30 = .ok (.aload_n 0, 1) := by decide +kernel
theorem dX7_prepare_31 : decode cX7_prepare 31 = .ok (.invokevirtual 93, 3) := by decide +kernel
theorem dX7_prepare_34 : decode cX7_prepare 34 = .ok (.if_icmp .ge 16, 3) := by decide +kernel
theorem dX7_prepare_37 : decode cX7_prepare 37 = .ok (.aload_n 0, 1) := by decide +kernel
theorem dX7_prepare_38 : decode cX7_prepare 38 = .ok (.getfield 36, 3) := by decide +kernel
theorem dX7_prepare_41 : decode cX7_prepare 41 = .ok (.iload_n 1, 1) := by decide +kernel
theorem dX7_prepare_42 : decode cX7_prepare 42 = .ok (.iconst 0, 1) := by decide +kernel
theorem dX7_prepare_43 : decode cX7_prepare 43 = .ok (.iastore, 1) := by decide +kernel
theorem dX7_prepare_44 : decode cX7_prepare 44 = .ok (.iinc 1 1, 3) := by decide +kernel
theorem dX7_prepare_47 : decode cX7_prepare 47 = .ok (.goto (-18), 3) := by decide +kernel
theorem dX7_prepare_50 : decode cX7_prepare 50 = .ok (.return_, 1) := by decide +kernel
set_option maxRecDepth 20000 in
theorem ggX7_least_X7_isState : GoodIn wsX7_least wsX7_isState := goodIn_r _ [5, 6, 7, 8, 4, 9, 10, 11, 12, 68, 69, 70, 71, 72, 73, 74, 75, 76, 77, 78, 79, 80, 81, 82, 83, 84, 85, 86, 87, 88, 89, 90] (by decide +kernel) (by decide +kernel)
set_option maxRecDepth 20000 in
theorem gX7_least_X7_isState : GoodIn wsX7_least (wsV RX7 103 RX7 yX7_isState wsX7_isState) := goodIn_app (goodIn_of _ (by decide +kernel)) ggX7_least_X7_isState
set_option maxRecDepth 20000 in
theorem ggX7_least_X7_throwsIf : GoodIn wsX7_least wsX7_throwsIf := goodIn_r _ [16, 17, 68, 69, 70, 71, 72, 73, 74, 75, 76, 77, 78, 79, 80, 81, 82, 83, 84, 85, 86, 87, 88, 89, 90] (by decide +kernel) (by decide +kernel)
set_option maxRecDepth 20000 in
theorem gX7_least_X7_throwsIf : GoodIn wsX7_least (wsV RX7 75 RX7 yX7_throwsIf wsX7_throwsIf) := goodIn_app (goodIn_of _ (by decide +kernel)) ggX7_least_X7_throwsIf
set_option maxRecDepth 20000 in
theorem ggX7_least_X7_prepare : GoodIn wsX7_least wsX7_prepare := goodIn_ca (goodIn_r _ [21, 22, 23, 24, 25, 26, 27, 4, 28, 11, 29, 30, 31, 32, 33, 34, 35, 36, 37, 6, 7, 8, 9, 10, 12, 68, 69, 70, 71, 72, 73, 74, 75, 76, 77, 78, 79, 80, 81, 82, 83, 84, 85, 86, 87, 88, 89, 90] (by decide +kernel) (by decide +kernel)) (goodIn_sub (fun _ h => List.mem_cons_of_mem _ (List.mem_append_right _ h)) (by decide +kernel))
set_option maxRecDepth 20000 in
theorem gX7_least_X7_prepare : GoodIn wsX7_least (wsV RX7 145 RX7 yX7_prepare wsX7_prepare) := goodIn_app (goodIn_of _ (by decide +kernel)) ggX7_least_X7_prepare
set_option maxRecDepth 20000 in
theorem ggX7_least_X7_markClass : GoodIn wsX7_least wsX7_markClass := goodIn_ca (goodIn_r _ [41, 42, 24, 22, 23, 43, 44, 45, 4, 46, 10, 47, 48, 49, 50, 30, 51, 52, 53, 54, 55, 12, 11, 56, 57, 58, 59, 60, 61, 62, 63, 64, 65, 66, 67, 68, 69, 70, 71, 72, 73, 74, 75, 76, 77, 78, 79, 80, 81, 82, 83, 84, 85, 86, 87, 88, 89, 90] (by decide +kernel) (by decide +kernel)) (goodIn_sub (fun _ h => List.mem_cons_of_mem _ (List.mem_append_right _ h)) (by decide +kernel))
set_option maxRecDepth 20000 in
theorem gX7_least_X7_markClass : GoodIn wsX7_least (wsV RX7 148 RX7 yX7_markClass wsX7_markClass) := goodIn_app (goodIn_of _ (by decide +kernel)) ggX7_least_X7_markClass
theorem dX7_least_0 : decode cX7_least 0 = .ok (.aload_n 0, 1) := by decide +kernel
theorem dX7_least_1 : decode cX7_least 1 = .ok (.iconst 1, 1) := by decide +kernel
theorem dX7_least_2 : decode cX7_least 2 = .ok (.aload_n 0, 1) := by decide +kernel
theorem dX7_least_3 : decode cX7_least 3 = .ok (.iload_n 1, 1) := by decide +kernel
theorem dX7_least_4 : decode cX7_least 4 = .ok (.invokevirtual 103, 3) := by decide +kernel
theorem dX7_least_7 : decode cX7_least 7 = .ok (.ifCond .ne 7, 3) := by decide +kernel
theorem dX7_least_10 : decode cX7_least 10 = .ok (.iconst 1, 1) := by decide +kernel
theorem dX7_least_11 : decode cX7_least 11 = .ok (.goto 4, 3) := by decide +kernel
theorem dX7_least_14 : decode cX7_least 14 = .ok (.iconst 0, 1) := by decide +kernel
theorem dX7_least_15 : decode cX7_least 15 = .ok (.invokevirtual 75, 3) := by decide +kernel
theorem dX7_least_18 : decode cX7_least 18 = .ok (.ifCond .eq 5, 3) := by decide +kernel
theorem dX7_least_21 : decode cX7_least 21 = .ok (.iconst 0, 1) := by decide +kernel
theorem dX7_least_22 : decode cX7_least 22 = .ok (.ireturn, 1) := by decide +kernel
theorem dX7_least_23 : decode cX7_least 23 = .ok (.aload_n 0, 1) := by decide +kernel
theorem dX7_least_24 : decode cX7_least 24 = .ok (.invokevirtual 145, 3) := by decide +kernel
theorem dX7_least_27 : decode cX7_least 27 = .ok (.aload_n 0, 1) := by decide +kernel
theorem dX7_least_28 : decode cX7_least 28 = .ok (.iload_n 1, 1) := by decide +kernel
theorem dX7_least_29 : decode cX7_least 29 = .ok (.iconst 1, 1) := by decide +kernel
theorem dX7_least_30 : decode cX7_least 30 = .ok (.invokevirtual 148, 3) := by decide +kernel
theorem dX7_least_33 : decode cX7_least 33 = .ok (.ireturn, 1) := by decide +kernel
set_option maxRecDepth 20000 in
theorem ggX7_classes_X7_prepare : GoodIn wsX7_classes wsX7_prepare := goodIn_ca (goodIn_r _ [7, 8, 9, 2, 10, 11, 12, 6, 13, 14, 15, 16, 17, 18, 19, 20, 21, 22, 23, 24, 25, 26, 27, 28, 29, 60, 61, 62, 63, 64, 65, 66, 67, 68, 69, 70, 71, 72, 73, 74, 75, 76, 77, 78, 79, 80, 81, 82] (by decide +kernel) (by decide +kernel)) (goodIn_sub (fun _ h => List.mem_cons_of_mem _ (List.mem_append_right _ h)) (by decide +kernel))
set_option maxRecDepth 20000 in
theorem gX7_classes_X7_prepare : GoodIn wsX7_classes (wsV RX7 145 RX7 yX7_prepare wsX7_prepare) := goodIn_app (goodIn_of _ (by decide +kernel)) ggX7_classes_X7_prepare
set_option maxRecDepth 20000 in
theorem ggX7_classes_X7_countStates : GoodIn wsX7_classes wsX7_countStates := goodIn_r _ [27, 28, 14, 29, 60, 61, 62, 63, 64, 65, 66, 67, 68, 69, 70, 71, 72, 73, 74, 75, 76, 77, 78, 79, 80, 81, 82] (by decide +kernel) (by decide +kernel)
set_option maxRecDepth 20000 in
theorem gX7_classes_X7_countStates : GoodIn wsX7_classes (wsV RX7 93 RX7 yX7_countStates wsX7_countStates) := goodIn_app (goodIn_of _ (by decide +kernel)) ggX7_classes_X7_countStates
set_option maxRecDepth 20000 in
theorem ggX7_classes_X7_markClass : GoodIn wsX7_classes wsX7_markClass := goodIn_ca (goodIn_r _ [33, 34, 2, 8, 9, 35, 36, 37, 6, 38, 28, 39, 40, 41, 42, 16, 43, 44, 45, 46, 47, 29, 14, 48, 49, 50, 51, 52, 53, 54, 55, 56, 57, 58, 59, 60, 61, 62, 63, 64, 65, 66, 67, 68, 69, 70, 71, 72, 73, 74, 75, 76, 77, 78, 79, 80, 81, 82] (by decide +kernel) (by decide +kernel)) (goodIn_sub (fun _ h => List.mem_cons_of_mem _ (List.mem_append_right _ h)) (by decide +kernel))
set_option maxRecDepth 20000 in
theorem gX7_classes_X7_markClass : GoodIn wsX7_classes (wsV RX7 148 RX7 yX7_markClass wsX7_markClass) := goodIn_app (goodIn_of _ (by decide +kernel)) ggX7_classes_X7_markClass
theorem dX7_classes_0 : decode cX7_classes 0 = .ok (.aload_n 0, 1) := by decide +kernel
theorem dX7_classes_1 : decode cX7_classes 1 = .ok (.iconst 0, 1) := by decide +kernel
theorem dX7_classes_2 : decode cX7_classes 2 = .ok (.putfield 58, 3) := by decide +kernel
theorem dX7_classes_5 : decode cX7_classes 5 = .ok (.aload_n 0, 1) := by decide +kernel
theorem dX7_classes_6 : decode cX7_classes 6 = .ok (.invokevirtual 145, 3) := by decide +kernel
theorem dX7_classes_9 : decode cX7_classes 9 = .ok (.iconst 0, 1) := by decide +kernel
theorem dX7_classes_10 : decode cX7_classes 10 = .ok (.istore_n 1, 1) := by decide +kernel
theorem dX7_classes_11 : decode cX7_classes 11 = .ok (.iconst 0, 1) := by decide +kernel
theorem dX7_classes_12 : decode cX7_classes 12 = .ok (.istore_n 2, 1) := by decide +kernel
theorem dX7_classes_13 : decode cX7_classes 13 = .ok (.iload_n 2, 1) := by decide +kernel
theorem dX7_classes_14 : decode cX7_classes 14 = .ok (.aload_n 0, 1) := by decide +kernel
theorem dX7_classes_15 : decode cX7_classes 15 = .ok (.invokevirtual 93, 3) := by decide +kernel
theorem dX7_classes_18 : decode cX7_classes 18 = .ok (.if_icmp .ge 31, 3) := by decide +kernel
theorem dX7_classes_21 : decode cX7_classes 21 = .ok (.aload_n 0, 1) := by decide +kernel
theorem dX7_classes_22 : decode cX7_classes 22 = .ok (.getfield 36, 3) := by decide +kernel
theorem dX7_classes_25 : decode cX7_classes 25 = .ok (.iload_n 2, 1) := by decide +kernel
theorem dX7_classes_26 : decode cX7_classes 26 = .ok (.iaload, 1) := by decide +kernel
theorem dX7_classes_27 : decode cX7_classes 27 = .ok (.ifCond .eq 6, 3) := by decide +kernel
theorem dX7_classes_30 : decode cX7_classes 30 = .ok (.goto 13, 3) := by decide +kernel
theorem dX7_classes_33 : decode cX7_classes 33 = .ok (.aload_n 0, 1) := by decide +kernel
theorem dX7_classes_34 : decode cX7_classes 34 = .ok (.iload_n 2, 1) := by decide +kernel
theorem dX7_classes_35 : decode cX7_classes 35 = .ok (.iconst 1, 1) := by decide +kernel
theorem dX7_classes_36 : decode cX7_classes 36 = .ok (.invokevirtual 148, 3) := by decide +kernel
theorem dX7_classes_39 : decode cX7_classes 39 = .ok (.pop, 1) := by decide +kernel
theorem dX7_classes_40 : decode cX7_classes 40 = .ok (.iinc 1 1, 3) := by decide +kernel
theorem dX7_classes_43 : decode cX7_classes 43 = .ok (.iinc 2 1, 3) := by decide +kernel
theorem dX7_classes_46 : decode cX7_classes 46 = .ok (.goto (-33), 3) := by decide +kernel
theorem dX7_classes_49 : decode cX7_classes 49 = .ok (.iload_n 1, 1) := by decide +kernel
theorem dX7_classes_50 : decode cX7_classes 50 = .ok (.ireturn, 1) := by decide +kernel
set_option maxRecDepth 20000 in
theorem ggX7_byteOf_X7_bitsOf : GoodIn wsX7_byteOf wsX7_bitsOf := goodIn_ca (goodIn_r _ [10, 11, 12, 13, 14, 15, 16, 17, 18, 19, 20, 21, 22, 23, 24, 25, 26, 27, 28, 29, 30, 31, 32, 33, 34] (by decide +kernel) (by decide +kernel)) (goodIn_sub (fun _ h => List.mem_cons_of_mem _ (List.mem_append_right _ h)) (by decide +kernel))
set_option maxRecDepth 20000 in
theorem gX7_byteOf_X7_bitsOf : GoodIn wsX7_byteOf (wsV RX7 129 RX7 yX7_bitsOf wsX7_bitsOf) := goodIn_app (goodIn_of _ (by decide +kernel)) ggX7_byteOf_X7_bitsOf
theorem dX7_byteOf_0 : decode cX7_byteOf 0 = .ok (.iload_n 1, 1) := by decide +kernel
theorem dX7_byteOf_1 : decode cX7_byteOf 1 = .ok (.tableswitch 65 0 5 #[39, 42, 45, 50, 55, 60], 39) := by decide +kernel
theorem dX7_byteOf_40 : decode cX7_byteOf 40 = .ok (.bipush 67, 2) := by decide +kernel
theorem dX7_byteOf_42 : decode cX7_byteOf 42 = .ok (.ireturn, 1) := by decide +kernel
theorem dX7_byteOf_43 : decode cX7_byteOf 43 = .ok (.bipush 84, 2) := by decide +kernel
theorem dX7_byteOf_45 : decode cX7_byteOf 45 = .ok (.ireturn, 1) := by decide +kernel
theorem dX7_byteOf_46 : decode cX7_byteOf 46 = .ok (.aload_n 0, 1) := by decide +kernel
theorem dX7_byteOf_47 : decode cX7_byteOf 47 = .ok (.getfield 51, 3) := by decide +kernel
theorem dX7_byteOf_50 : decode cX7_byteOf 50 = .ok (.ireturn, 1) := by decide +kernel
theorem dX7_byteOf_51 : decode cX7_byteOf 51 = .ok (.aload_n 0, 1) := by decide +kernel
theorem dX7_byteOf_52 : decode cX7_byteOf 52 = .ok (.getfield 55, 3) := by decide +kernel
theorem dX7_byteOf_55 : decode cX7_byteOf 55 = .ok (.ireturn, 1) := by decide +kernel
theorem dX7_byteOf_56 : decode cX7_byteOf 56 = .ok (.aload_n 0, 1) := by decide +kernel
theorem dX7_byteOf_57 : decode cX7_byteOf 57 = .ok (.getfield 83, 3) := by decide +kernel
theorem dX7_byteOf_60 : decode cX7_byteOf 60 = .ok (.ireturn, 1) := by decide +kernel
theorem dX7_byteOf_61 : decode cX7_byteOf 61 = .ok (.aload_n 0, 1) := by decide +kernel
theorem dX7_byteOf_62 : decode cX7_byteOf 62 = .ok (.getfield 126, 3) := by decide +kernel
theorem dX7_byteOf_65 : decode cX7_byteOf 65 = .ok (.ireturn, 1) := by decide +kernel
theorem dX7_byteOf_66 : decode cX7_byteOf 66 = .ok (.iconst 2, 1) := by decide +kernel
theorem dX7_byteOf_67 : decode cX7_byteOf 67 = .ok (.iload_n 1, 1) := by decide +kernel
theorem dX7_byteOf_68 : decode cX7_byteOf 68 = .ok (.bipush 6, 2) := by decide +kernel
theorem dX7_byteOf_70 : decode cX7_byteOf 70 = .ok (.isub, 1) := by decide +kernel
theorem dX7_byteOf_71 : decode cX7_byteOf 71 = .ok (.imul, 1) := by decide +kernel
theorem dX7_byteOf_72 : decode cX7_byteOf 72 = .ok (.istore_n 2, 1) := by decide +kernel
theorem dX7_byteOf_73 : decode cX7_byteOf 73 = .ok (.aload_n 0, 1) := by decide +kernel
theorem dX7_byteOf_74 : decode cX7_byteOf 74 = .ok (.iload_n 2, 1) := by decide +kernel
theorem dX7_byteOf_75 : decode cX7_byteOf 75 = .ok (.iconst 4, 1) := by decide +kernel
theorem dX7_byteOf_76 : decode cX7_byteOf 76 = .ok (.invokevirtual 129, 3) := by decide +kernel
theorem dX7_byteOf_79 : decode cX7_byteOf 79 = .ok (.iload_n 2, 1) := by decide +kernel
theorem dX7_byteOf_80 : decode cX7_byteOf 80 = .ok (.iconst 1, 1) := by decide +kernel
theorem dX7_byteOf_81 : decode cX7_byteOf 81 = .ok (.iadd, 1) := by decide +kernel
theorem dX7_byteOf_82 : decode cX7_byteOf 82 = .ok (.aload_n 0, 1) := by decide +kernel
theorem dX7_byteOf_83 : decode cX7_byteOf 83 = .ok (.getfield 116, 3) := by decide +kernel
theorem dX7_byteOf_86 : decode cX7_byteOf 86 = .ok (.if_icmp .ge 17, 3) := by decide +kernel
theorem dX7_byteOf_89 : decode cX7_byteOf 89 = .ok (.bipush 16, 2) := by decide +kernel
theorem dX7_byteOf_91 : decode cX7_byteOf 91 = .ok (.aload_n 0, 1) := by decide +kernel
theorem dX7_byteOf_92 : decode cX7_byteOf 92 = .ok (.iload_n 2, 1) := by decide +kernel
theorem dX7_byteOf_93 : decode cX7_byteOf 93 = .ok (.iconst 1, 1) := by decide +kernel
theorem dX7_byteOf_94 : decode cX7_byteOf 94 = .ok (.iadd, 1) := by decide +kernel
theorem dX7_byteOf_95 : decode cX7_byteOf 95 = .ok (.iconst 4, 1) := by decide +kernel
theorem dX7_byteOf_96 : decode cX7_byteOf 96 = .ok (.invokevirtual 129, 3) := by decide +kernel
theorem dX7_byteOf_99 : decode cX7_byteOf 99 = .ok (.imul, 1) := by decide +kernel
theorem dX7_byteOf_100 : decode cX7_byteOf 100 = .ok (.goto 4, 3) := by decide +kernel
theorem dX7_byteOf_103 : decode cX7_byteOf 103 = .ok (.iconst 0, 1) := by decide +kernel
theorem dX7_byteOf_104 : decode cX7_byteOf 104 = .ok (.iadd, 1) := by decide +kernel
theorem dX7_byteOf_105 : decode cX7_byteOf 105 = .ok (.ireturn, 1) := by decide +kernel
set_option maxRecDepth 20000 in
theorem ggX7_file_X7_byteOf : GoodIn wsX7_file wsX7_byteOf := goodIn_ca (goodIn_r _ [8, 9, 10, 11, 12, 2, 13, 14, 15, 7, 16, 17, 18, 19, 20, 21, 22, 23, 24, 25, 26, 27, 28, 29, 30, 31, 32, 33, 34, 35, 36, 37, 38, 39, 40] (by decide +kernel) (by decide +kernel)) (goodIn_sub (fun _ h => List.mem_cons_of_mem _ (List.mem_append_right _ h)) (by decide +kernel))
set_option maxRecDepth 20000 in
theorem gX7_file_X7_byteOf : GoodIn wsX7_file (wsV RX7 151 RX7 yX7_byteOf wsX7_byteOf) := goodIn_app (goodIn_of _ (by decide +kernel)) ggX7_file_X7_byteOf
theorem dX7_file_0 : decode cX7_file 0 = .ok (.aload_n 0, 1) := by decide +kernel
theorem dX7_file_1 : decode cX7_file 1 = .ok (.iconst 0, 1) := by decide +kernel
theorem dX7_file_2 : decode cX7_file 2 = .ok (.putfield 58, 3) := by decide +kernel
theorem dX7_file_5 : decode cX7_file 5 = .ok (.bipush 6, 2) := by decide +kernel
theorem dX7_file_7 : decode cX7_file 7 = .ok (.aload_n 0, 1) := by decide +kernel
theorem dX7_file_8 : decode cX7_file 8 = .ok (.getfield 116, 3) := by decide +kernel
theorem dX7_file_11 : decode cX7_file 11 = .ok (.iconst 1, 1) := by decide +kernel
theorem dX7_file_12 : decode cX7_file 12 = .ok (.iadd, 1) := by decide +kernel
theorem dX7_file_13 : decode cX7_file 13 = .ok (.iconst 2, 1) := by decide +kernel
theorem dX7_file_14 : decode cX7_file 14 = .ok (.idiv, 1) := by decide +kernel
theorem dX7_file_15 : decode cX7_file 15 = .ok (.iadd, 1) := by decide +kernel
theorem dX7_file_16 : decode cX7_file 16 = .ok (.istore_n 2, 1) := by decide +kernel
theorem dX7_file_17 : decode cX7_file 17 = .ok (.aload_n 0, 1) := by decide +kernel
theorem dX7_file_18 : decode cX7_file 18 = .ok (.getfield 64, 3) := by decide +kernel
theorem dX7_file_21 : decode cX7_file 21 = .ok (.ifCond .eq 12, 3) := by decide +kernel
theorem dX7_file_24 : decode cX7_file 24 = .ok (.iload_n 1, 1) := by decide +kernel
theorem dX7_file_25 : decode cX7_file 25 = .ok (.ifCond .lt 8, 3) := by decide +kernel
theorem dX7_file_28 : decode cX7_file 28 = .ok (.iload_n 1, 1) := by decide +kernel
theorem dX7_file_29 : decode cX7_file 29 = .ok (.iload_n 2, 1) := by decide +kernel
theorem dX7_file_30 : decode cX7_file 30 = .ok (.if_icmp .le 5, 3) := by decide +kernel
theorem dX7_file_33 : decode cX7_file 33 = .ok (.iconst (-1), 1) := by decide +kernel
theorem dX7_file_34 : decode cX7_file 34 = .ok (.ireturn, 1) := by decide +kernel
theorem dX7_file_35 : decode cX7_file 35 = .ok (.iload_n 1, 1) := by decide +kernel
theorem dX7_file_36 : decode cX7_file 36 = .ok (.iload_n 2, 1) := by decide +kernel
theorem dX7_file_37 : decode cX7_file 37 = .ok (.if_icmp .ge 9, 3) := by decide +kernel
theorem dX7_file_40 : decode cX7_file 40 = .ok (.aload_n 0, 1) := by decide +kernel
theorem dX7_file_41 : decode cX7_file 41 = .ok (.iload_n 1, 1) := by decide +kernel
theorem dX7_file_42 : decode cX7_file 42 = .ok (.invokevirtual 151, 3) := by decide +kernel
theorem dX7_file_45 : decode cX7_file 45 = .ok (.ireturn, 1) := by decide +kernel
theorem dX7_file_46 : decode cX7_file 46 = .ok (.iconst 0, 1) := by decide +kernel
theorem dX7_file_47 : decode cX7_file 47 = .ok (.istore_n 3, 1) := by decide +kernel
theorem dX7_file_48 : decode cX7_file 48 = .ok (.iconst 0, 1) := by decide +kernel
theorem dX7_file_49 : decode cX7_file 49 = .ok (.istore 4, 2) := by decide +kernel
theorem dX7_file_51 : decode cX7_file 51 = .ok (.iload 4, 2) := by decide +kernel
theorem dX7_file_53 : decode cX7_file 53 = .ok (.iload_n 2, 1) := by decide +kernel
theorem dX7_file_54 : decode cX7_file 54 = .ok (.if_icmp .ge 22, 3) := by decide +kernel
theorem dX7_file_57 : decode cX7_file 57 = .ok (.iload_n 3, 1) := by decide +kernel
theorem dX7_file_58 : decode cX7_file 58 = .ok (.aload_n 0, 1) := by decide +kernel
theorem dX7_file_59 : decode cX7_file 59 = .ok (.iload 4, 2) := by decide +kernel
theorem dX7_file_61 : decode cX7_file 61 = .ok (.invokevirtual 151, 3) := by decide +kernel
theorem dX7_file_64 : decode cX7_file 64 = .ok (.iadd, 1) := by decide +kernel
theorem dX7_file_65 : decode cX7_file 65 = .ok (.sipush 251, 3) := by decide +kernel
theorem dX7_file_68 : decode cX7_file 68 = .ok (.irem, 1) := by decide +kernel
theorem dX7_file_69 : decode cX7_file 69 = .ok (.istore_n 3, 1) := by decide +kernel
theorem dX7_file_70 : decode cX7_file 70 = .ok (.iinc 4 1, 3) := by decide +kernel
theorem dX7_file_73 : decode cX7_file 73 = .ok (.goto (-22), 3) := by decide +kernel
theorem dX7_file_76 : decode cX7_file 76 = .ok (.iload_n 3, 1) := by decide +kernel
theorem dX7_file_77 : decode cX7_file 77 = .ok (.ireturn, 1) := by decide +kernel
set_option maxRecDepth 20000 in
theorem ggJ5_init_d00df_J2_newBytesFor_77867 : GoodIn wsJ5_init_d00df wsJ2_newBytesFor_77867 := goodIn_r _ [11, 5, 12, 13, 10, 14, 15] (by decide +kernel) (by decide +kernel)
set_option maxRecDepth 20000 in
theorem gJ5_init_d00df_J2_newBytesFor_77867 : GoodIn wsJ5_init_d00df (va_wsS RJ5 26 yJ2_newBytesFor_77867 wsJ2_newBytesFor_77867) := goodIn_app (goodIn_of _ (by decide +kernel)) ggJ5_init_d00df_J2_newBytesFor_77867
set_option maxRecDepth 20000 in
theorem ggJ5_ensureCapacityInternal_d00df_J5_newCapacity_0f7a4 : GoodIn wsJ5_ensureCapacityInternal_d00df wsJ5_newCapacity_0f7a4 := goodIn_r _ [8, 1, 2, 9, 10, 11, 12, 13, 14, 15, 16, 17, 18, 19, 20, 21, 40, 41, 42, 43] (by decide +kernel) (by decide +kernel)
set_option maxRecDepth 20000 in
theorem gJ5_ensureCapacityInternal_d00df_J5_newCapacity_0f7a4_u104J4 : GoodIn wsJ5_ensureCapacityInternal_d00df (va_wsU RJ5 104 RJ4 "java/lang/AbstractStringBuilder" ⟨"java/lang/AbstractStringBuilder", "newCapacity", "(I)I"⟩ yJ5_newCapacity_0f7a4 wsJ5_newCapacity_0f7a4) := goodIn_app (goodIn_of _ (by decide +kernel)) ggJ5_ensureCapacityInternal_d00df_J5_newCapacity_0f7a4
set_option maxRecDepth 20000 in
theorem ggJ5_ensureCapacityInternal_d00df_J7_copyOf_9075b : GoodIn wsJ5_ensureCapacityInternal_d00df wsJ7_copyOf_9075b := goodIn_r _ [25, 26, 27, 28, 29, 30, 31, 32, 33, 34, 16, 35, 36, 37, 38, 39] (by decide +kernel) (by decide +kernel)
set_option maxRecDepth 20000 in
theorem gJ5_ensureCapacityInternal_d00df_J7_copyOf_9075b : GoodIn wsJ5_ensureCapacityInternal_d00df (va_wsS RJ5 108 yJ7_copyOf_9075b wsJ7_copyOf_9075b) := goodIn_app (goodIn_of _ (by decide +kernel)) ggJ5_ensureCapacityInternal_d00df_J7_copyOf_9075b
set_option maxRecDepth 20000 in
theorem ggJ5_newCapacity_0f7a4_J8_newLength_cabcc : GoodIn wsJ5_newCapacity_0f7a4 wsJ8_newLength_cabcc := goodIn_r _ [7, 8, 9, 10, 11, 12, 13, 14, 6, 15] (by decide +kernel) (by decide +kernel)
set_option maxRecDepth 20000 in
theorem gJ5_newCapacity_0f7a4_J8_newLength_cabcc : GoodIn wsJ5_newCapacity_0f7a4 (va_wsS RJ5 114 yJ8_newLength_cabcc wsJ8_newLength_cabcc) := goodIn_app (goodIn_of _ (by decide +kernel)) ggJ5_newCapacity_0f7a4_J8_newLength_cabcc
set_option maxRecDepth 20000 in
theorem ggJ5_inflate_da8c8_J5_isLatin1_aae02 : GoodIn wsJ5_inflate_da8c8 wsJ5_isLatin1_aae02 := goodIn_r _ [9, 10, 3, 48, 49, 50, 51] (by decide +kernel) (by decide +kernel)
set_option maxRecDepth 20000 in
theorem gJ5_inflate_da8c8_J5_isLatin1_aae02_u83J4 : GoodIn wsJ5_inflate_da8c8 (va_wsU RJ5 83 RJ4 "java/lang/AbstractStringBuilder" ⟨"java/lang/AbstractStringBuilder", "isLatin1", "()Z"⟩ yJ5_isLatin1_aae02 wsJ5_isLatin1_aae02) := goodIn_app (goodIn_of _ (by decide +kernel)) ggJ5_inflate_da8c8_J5_isLatin1_aae02
set_option maxRecDepth 20000 in
theorem ggJ5_inflate_da8c8_J2_newBytesFor_77867 : GoodIn wsJ5_inflate_da8c8 wsJ2_newBytesFor_77867 := goodIn_r _ [14, 15, 16, 17, 13, 18, 19] (by decide +kernel) (by decide +kernel)
set_option maxRecDepth 20000 in
theorem gJ5_inflate_da8c8_J2_newBytesFor_77867 : GoodIn wsJ5_inflate_da8c8 (va_wsS RJ5 26 yJ2_newBytesFor_77867 wsJ2_newBytesFor_77867) := goodIn_app (goodIn_of _ (by decide +kernel)) ggJ5_inflate_da8c8_J2_newBytesFor_77867
set_option maxRecDepth 20000 in
theorem ggJ5_inflate_da8c8_J1_inflate_0e8fd : GoodIn wsJ5_inflate_da8c8 wsJ1_inflate_0e8fd := goodIn_r _ [23, 24, 25, 13, 26, 27, 28, 29, 30, 31, 32, 33, 34, 35, 36, 37, 38, 39, 40, 41, 42, 43, 44, 45, 46, 47] (by decide +kernel) (by decide +kernel)
set_option maxRecDepth 20000 in
theorem gJ5_inflate_da8c8_J1_inflate_0e8fd : GoodIn wsJ5_inflate_da8c8 (va_wsS RJ5 125 yJ1_inflate_0e8fd wsJ1_inflate_0e8fd) := goodIn_app (goodIn_of _ (by decide +kernel)) ggJ5_inflate_da8c8_J1_inflate_0e8fd
set_option maxRecDepth 20000 in
theorem ggJ5_append_cf1ce_J5_appendNull_278bc : GoodIn wsJ5_append_cf1ce wsJ5_appendNull_278bc := goodIn_r _ [7, 1, 8, 9, 10, 11, 12, 6, 13, 14, 15, 16, 17, 18, 19, 20, 21, 22, 23, 24, 25, 26, 27, 28, 29, 30, 31, 32, 33, 34, 35, 36, 37, 38, 39, 40, 41, 42, 43, 44, 45, 46, 47, 48, 49, 50, 51, 52, 53, 54, 55, 56, 57, 58, 59, 60, 61, 62, 63, 64, 65, 66, 67, 68, 69, 70, 71, 72, 73, 74, 75, 76, 77, 78, 79, 80, 81, 138, 139, 140, 141] (by decide +kernel) (by decide +kernel)
set_option maxRecDepth 20000 in
theorem gJ5_append_cf1ce_J5_appendNull_278bc_u204J4 : GoodIn wsJ5_append_cf1ce (va_wsU RJ5 204 RJ4 "java/lang/AbstractStringBuilder" ⟨"java/lang/AbstractStringBuilder", "appendNull", "()Ljava/lang/AbstractStringBuilder;"⟩ yJ5_appendNull_278bc wsJ5_appendNull_278bc) := goodIn_app (goodIn_of _ (by decide +kernel)) ggJ5_append_cf1ce_J5_appendNull_278bc
set_option maxRecDepth 20000 in
theorem ggJ5_append_cf1ce_J0_length_8abf5 : GoodIn wsJ5_append_cf1ce wsJ0_length_8abf5 := goodIn_r _ [85, 86, 87, 88, 89, 70, 90, 91, 92, 142, 143, 144, 145] (by decide +kernel) (by decide +kernel)
set_option maxRecDepth 20000 in
theorem gJ5_append_cf1ce_J0_length_8abf5 : GoodIn wsJ5_append_cf1ce (wsV RJ5 32 RJ0 yJ0_length_8abf5 wsJ0_length_8abf5) := goodIn_app (goodIn_of _ (by decide +kernel)) ggJ5_append_cf1ce_J0_length_8abf5
set_option maxRecDepth 20000 in
theorem ggJ5_append_cf1ce_J5_ensureCapacityInternal_d00df : GoodIn wsJ5_append_cf1ce wsJ5_ensureCapacityInternal_d00df := goodIn_r _ [13, 8, 14, 15, 16, 17, 18, 6, 19, 20, 21, 22, 23, 24, 25, 26, 27, 28, 29, 30, 31, 32, 33, 34, 35, 36, 37, 38, 39, 40, 41, 42, 43, 44, 45, 46, 47, 48, 49, 50, 138, 139, 140, 141] (by decide +kernel) (by decide +kernel)
set_option maxRecDepth 20000 in
theorem gJ5_append_cf1ce_J5_ensureCapacityInternal_d00df_u100J4 : GoodIn wsJ5_append_cf1ce (va_wsU RJ5 100 RJ4 "java/lang/AbstractStringBuilder" ⟨"java/lang/AbstractStringBuilder", "ensureCapacityInternal", "(I)V"⟩ yJ5_ensureCapacityInternal_d00df wsJ5_ensureCapacityInternal_d00df) := goodIn_app (goodIn_of _ (by decide +kernel)) ggJ5_append_cf1ce_J5_ensureCapacityInternal_d00df
set_option maxRecDepth 20000 in
theorem ggJ5_append_cf1ce_J5_putStringAt_47b60 : GoodIn wsJ5_append_cf1ce wsJ5_putStringAt_47b60 := goodIn_r _ [97, 8, 14, 98, 99, 100, 101, 6, 102, 56, 103, 88, 89, 70, 90, 91, 92, 104, 105, 106, 107, 108, 1, 51, 52, 53, 54, 55, 109, 110, 59, 111, 43, 112, 113, 114, 115, 116, 117, 118, 119, 120, 121, 122, 123, 124, 125, 65, 66, 67, 126, 127, 128, 72, 129, 130, 75, 131, 77, 78, 79, 61, 80, 81, 132, 133, 134, 135, 86, 136, 48, 49, 50, 87, 137, 138, 139, 140, 141, 142, 143, 144, 145] (by decide +kernel) (by decide +kernel)
set_option maxRecDepth 20000 in
theorem gJ5_append_cf1ce_J5_putStringAt_47b60_u208J4 : GoodIn wsJ5_append_cf1ce (va_wsU RJ5 208 RJ4 "java/lang/AbstractStringBuilder" ⟨"java/lang/AbstractStringBuilder", "putStringAt", "(ILjava/lang/String;)V"⟩ yJ5_putStringAt_47b60 wsJ5_putStringAt_47b60) := goodIn_app (goodIn_of _ (by decide +kernel)) ggJ5_append_cf1ce_J5_putStringAt_47b60
set_option maxRecDepth 20000 in
theorem ggJ5_appendNull_278bc_J5_ensureCapacityInternal_d00df : GoodIn wsJ5_appendNull_278bc wsJ5_ensureCapacityInternal_d00df := goodIn_r _ [8, 2, 9, 10, 11, 12, 13, 7, 14, 15, 16, 17, 18, 19, 20, 21, 22, 23, 24, 25, 26, 27, 28, 29, 30, 31, 32, 33, 34, 35, 36, 37, 38, 39, 40, 41, 42, 43, 44, 45, 77, 78, 79, 80] (by decide +kernel) (by decide +kernel)
set_option maxRecDepth 20000 in
theorem gJ5_appendNull_278bc_J5_ensureCapacityInternal_d00df_u100J4 : GoodIn wsJ5_appendNull_278bc (va_wsU RJ5 100 RJ4 "java/lang/AbstractStringBuilder" ⟨"java/lang/AbstractStringBuilder", "ensureCapacityInternal", "(I)V"⟩ yJ5_ensureCapacityInternal_d00df wsJ5_ensureCapacityInternal_d00df) := goodIn_app (goodIn_of _ (by decide +kernel)) ggJ5_appendNull_278bc_J5_ensureCapacityInternal_d00df
set_option maxRecDepth 20000 in
theorem ggJ5_appendNull_278bc_J5_isLatin1_aae02 : GoodIn wsJ5_appendNull_278bc wsJ5_isLatin1_aae02 := goodIn_r _ [50, 51, 9, 77, 78, 79, 80] (by decide +kernel) (by decide +kernel)
set_option maxRecDepth 20000 in
theorem gJ5_appendNull_278bc_J5_isLatin1_aae02_u83J4 : GoodIn wsJ5_appendNull_278bc (va_wsU RJ5 83 RJ4 "java/lang/AbstractStringBuilder" ⟨"java/lang/AbstractStringBuilder", "isLatin1", "()Z"⟩ yJ5_isLatin1_aae02 wsJ5_isLatin1_aae02) := goodIn_app (goodIn_of _ (by decide +kernel)) ggJ5_appendNull_278bc_J5_isLatin1_aae02
set_option maxRecDepth 20000 in
theorem ggJ5_appendNull_278bc_J2_putCharsAt_cd4e5 : GoodIn wsJ5_appendNull_278bc wsJ2_putCharsAt_cd4e5 := goodIn_r _ [55, 56, 57, 58, 54, 59, 60, 61, 62, 63, 64, 65, 66, 67, 68, 69, 70, 71, 72, 73, 74, 75, 76] (by decide +kernel) (by decide +kernel)
set_option maxRecDepth 20000 in
theorem gJ5_appendNull_278bc_J2_putCharsAt_cd4e5 : GoodIn wsJ5_appendNull_278bc (va_wsS RJ5 226 yJ2_putCharsAt_cd4e5 wsJ2_putCharsAt_cd4e5) := goodIn_app (goodIn_of _ (by decide +kernel)) ggJ5_appendNull_278bc_J2_putCharsAt_cd4e5
set_option maxRecDepth 20000 in
theorem ggJ5_append_c97b9_J6_stringSize_0f7a4 : GoodIn wsJ5_append_c97b9 wsJ6_stringSize_0f7a4 := goodIn_r _ [6] (by decide +kernel) (by decide +kernel)
set_option maxRecDepth 20000 in
theorem gJ5_append_c97b9_J6_stringSize_0f7a4 : GoodIn wsJ5_append_c97b9 (va_wsS RJ5 245 yJ6_stringSize_0f7a4 wsJ6_stringSize_0f7a4) := goodIn_app (goodIn_of _ (by decide +kernel)) ggJ5_append_c97b9_J6_stringSize_0f7a4
set_option maxRecDepth 20000 in
theorem ggJ5_append_c97b9_J5_ensureCapacityInternal_d00df : GoodIn wsJ5_append_c97b9 wsJ5_ensureCapacityInternal_d00df := goodIn_r _ [12, 2, 13, 14, 15, 16, 17, 11, 18, 19, 20, 21, 22, 23, 24, 25, 26, 27, 28, 29, 30, 31, 32, 33, 34, 35, 36, 37, 38, 39, 40, 41, 42, 43, 44, 45, 46, 47, 48, 49, 91, 92, 93, 94] (by decide +kernel) (by decide +kernel)
set_option maxRecDepth 20000 in
theorem gJ5_append_c97b9_J5_ensureCapacityInternal_d00df_u100J4 : GoodIn wsJ5_append_c97b9 (va_wsU RJ5 100 RJ4 "java/lang/AbstractStringBuilder" ⟨"java/lang/AbstractStringBuilder", "ensureCapacityInternal", "(I)V"⟩ yJ5_ensureCapacityInternal_d00df wsJ5_ensureCapacityInternal_d00df) := goodIn_app (goodIn_of _ (by decide +kernel)) ggJ5_append_c97b9_J5_ensureCapacityInternal_d00df
set_option maxRecDepth 20000 in
theorem ggJ5_append_c97b9_J5_isLatin1_aae02 : GoodIn wsJ5_append_c97b9 wsJ5_isLatin1_aae02 := goodIn_r _ [54, 55, 13, 91, 92, 93, 94] (by decide +kernel) (by decide +kernel)
set_option maxRecDepth 20000 in
theorem gJ5_append_c97b9_J5_isLatin1_aae02_u83J4 : GoodIn wsJ5_append_c97b9 (va_wsU RJ5 83 RJ4 "java/lang/AbstractStringBuilder" ⟨"java/lang/AbstractStringBuilder", "isLatin1", "()Z"⟩ yJ5_isLatin1_aae02 wsJ5_isLatin1_aae02) := goodIn_app (goodIn_of _ (by decide +kernel)) ggJ5_append_c97b9_J5_isLatin1_aae02
set_option maxRecDepth 20000 in
theorem ggJ5_append_c97b9_J6_getChars_ba4f3 : GoodIn wsJ5_append_c97b9 wsJ6_getChars_ba4f3 := goodIn_r _ [58, 59, 60] (by decide +kernel) (by decide +kernel)
set_option maxRecDepth 20000 in
theorem gJ5_append_c97b9_J6_getChars_ba4f3 : GoodIn wsJ5_append_c97b9 (va_wsS RJ5 248 yJ6_getChars_ba4f3 wsJ6_getChars_ba4f3) := goodIn_app (goodIn_of _ (by decide +kernel)) ggJ5_append_c97b9_J6_getChars_ba4f3
set_option maxRecDepth 20000 in
theorem ggJ5_append_c97b9_J2_getChars_46870 : GoodIn wsJ5_append_c97b9 wsJ2_getChars_46870 := goodIn_r _ [64, 65, 66, 67, 63, 68, 69, 70, 71, 72, 73, 74, 75, 76, 77, 78, 79, 80, 81, 82, 83, 84, 85, 86, 87, 88, 89, 90] (by decide +kernel) (by decide +kernel)
set_option maxRecDepth 20000 in
theorem gJ5_append_c97b9_J2_getChars_46870 : GoodIn wsJ5_append_c97b9 (va_wsS RJ5 251 yJ2_getChars_46870 wsJ2_getChars_46870) := goodIn_app (goodIn_of _ (by decide +kernel)) ggJ5_append_c97b9_J2_getChars_46870
set_option maxRecDepth 20000 in
theorem ggJ5_inflateIfNeededFor_a7421_J0_coder_7d493 : GoodIn wsJ5_inflateIfNeededFor_a7421 wsJ0_coder_7d493 := goodIn_r _ [7, 8, 9, 63, 64, 65, 66] (by decide +kernel) (by decide +kernel)
set_option maxRecDepth 20000 in
theorem gJ5_inflateIfNeededFor_a7421_J0_coder_7d493 : GoodIn wsJ5_inflateIfNeededFor_a7421 (wsV RJ5 40 RJ0 yJ0_coder_7d493 wsJ0_coder_7d493) := goodIn_app (goodIn_of _ (by decide +kernel)) ggJ5_inflateIfNeededFor_a7421_J0_coder_7d493
set_option maxRecDepth 20000 in
theorem ggJ5_inflateIfNeededFor_a7421_J5_inflate_da8c8 : GoodIn wsJ5_inflateIfNeededFor_a7421 wsJ5_inflate_da8c8 := goodIn_r _ [15, 16, 17, 2, 18, 19, 20, 21, 14, 22, 1, 23, 24, 25, 26, 27, 28, 29, 30, 31, 32, 33, 34, 35, 36, 37, 38, 39, 40, 41, 42, 43, 44, 45, 46, 6, 47, 48, 49, 50, 51, 52, 53, 54, 55, 56, 57, 58, 59, 60, 61, 62] (by decide +kernel) (by decide +kernel)
set_option maxRecDepth 20000 in
theorem gJ5_inflateIfNeededFor_a7421_J5_inflate_da8c8_u195J4 : GoodIn wsJ5_inflateIfNeededFor_a7421 (va_wsU RJ5 195 RJ4 "java/lang/AbstractStringBuilder" ⟨"java/lang/AbstractStringBuilder", "inflate", "()V"⟩ yJ5_inflate_da8c8 wsJ5_inflate_da8c8) := goodIn_app (goodIn_of _ (by decide +kernel)) ggJ5_inflateIfNeededFor_a7421_J5_inflate_da8c8
set_option maxRecDepth 20000 in
theorem ggJ5_putStringAt_47b60_J5_inflateIfNeededFor_a7421 : GoodIn wsJ5_putStringAt_47b60 wsJ5_inflateIfNeededFor_a7421 := goodIn_r _ [8, 9, 2, 10, 11, 12, 13, 14, 15, 16, 17, 18, 19, 20, 7, 21, 1, 22, 23, 24, 25, 26, 27, 28, 29, 30, 31, 32, 33, 34, 35, 36, 37, 38, 39, 40, 41, 42, 43, 44, 45, 46, 47, 48, 49, 50, 51, 52, 53, 54, 55, 56, 57, 58, 59, 60, 61, 62, 63, 75, 76, 77, 78, 79, 80, 81, 82] (by decide +kernel) (by decide +kernel)
set_option maxRecDepth 20000 in
theorem gJ5_putStringAt_47b60_J5_inflateIfNeededFor_a7421_u397J4 : GoodIn wsJ5_putStringAt_47b60 (va_wsU RJ5 397 RJ4 "java/lang/AbstractStringBuilder" ⟨"java/lang/AbstractStringBuilder", "inflateIfNeededFor", "(Ljava/lang/String;)V"⟩ yJ5_inflateIfNeededFor_a7421 wsJ5_inflateIfNeededFor_a7421) := goodIn_app (goodIn_of _ (by decide +kernel)) ggJ5_putStringAt_47b60_J5_inflateIfNeededFor_a7421
set_option maxRecDepth 20000 in
theorem ggJ5_putStringAt_47b60_J0_getBytes_840e7 : GoodIn wsJ5_putStringAt_47b60 wsJ0_getBytes_840e7 := goodIn_r _ [67, 68, 69, 70, 71, 72, 73, 11, 12, 13, 14, 15, 16, 74, 38, 39, 40, 41, 42, 30, 43, 44, 45, 46, 47, 48, 49, 50, 51, 52, 53, 54, 55, 56, 57, 58, 59, 60, 61, 62, 63, 79, 80, 81, 82] (by decide +kernel) (by decide +kernel)
set_option maxRecDepth 20000 in
theorem gJ5_putStringAt_47b60_J0_getBytes_840e7 : GoodIn wsJ5_putStringAt_47b60 (wsV RJ5 399 RJ0 yJ0_getBytes_840e7 wsJ0_getBytes_840e7) := goodIn_app (goodIn_of _ (by decide +kernel)) ggJ5_putStringAt_47b60_J0_getBytes_840e7
set_option maxRecDepth 20000 in
theorem ggJx00060_init_d00df_J4_init_da8c8 : GoodIn wsJx00060_init_d00df wsJ4_init_da8c8 := goodIn_r _ [6, 7, 8, 9, 10, 11, 12, 13, 14, 15, 16, 17, 18, 19, 20, 21, 22, 23, 24, 25, 236, 237, 238, 239] (by decide +kernel) (by decide +kernel)
set_option maxRecDepth 20000 in
theorem gJx00060_init_d00df_J4_init_da8c8 : GoodIn wsJx00060_init_d00df (wsJ4_init_da8c8) := ggJx00060_init_d00df_J4_init_da8c8
set_option maxRecDepth 20000 in
theorem ggJx00060_init_d00df_J4_append_15ec4 : GoodIn wsJx00060_init_d00df wsJ4_append_15ec4 := goodIn_r _ [29, 30, 31, 32, 33, 9, 34, 35, 36, 37, 38, 39, 40, 16, 41, 42, 43, 44, 45, 17, 46, 47, 48, 49, 50, 51, 52, 53, 54, 55, 56, 57, 58, 59, 60, 61, 62, 63, 64, 65, 66, 67, 68, 69, 70, 71, 72, 73, 15, 74, 75, 76, 77, 78, 79, 80, 81, 82, 83, 84, 85, 14, 86, 87, 20, 88, 89, 90, 91, 92, 93, 94, 95, 96, 97, 98, 99, 100, 101, 102, 103, 104, 105, 106, 107, 108, 109, 110, 111, 112, 113, 114, 115, 116, 117, 118, 119, 120, 121, 122, 123, 124, 125, 126, 127, 128, 129, 130, 131, 132, 133, 134, 135, 136, 18, 19, 21, 22, 23, 24, 25, 137, 138, 139, 140, 141, 142, 143, 144, 145, 146, 147, 148, 149, 150, 151, 152, 153, 154, 155, 156, 157, 158, 236, 237, 238, 239, 240, 241, 242, 243] (by decide +kernel) (by decide +kernel)
set_option maxRecDepth 20000 in
theorem gJx00060_init_d00df_J4_append_15ec4 : GoodIn wsJx00060_init_d00df (wsV RJx00060 15 RJ4 yJ4_append_15ec4 wsJ4_append_15ec4) := goodIn_app (goodIn_of _ (by decide +kernel)) ggJx00060_init_d00df_J4_append_15ec4
set_option maxRecDepth 20000 in
theorem ggJx00060_init_d00df_J4_append_bf812 : GoodIn wsJx00060_init_d00df wsJ4_append_bf812 := goodIn_r _ [162, 163, 164, 32, 165, 9, 166, 35, 16, 167, 168, 169, 170, 41, 42, 43, 44, 45, 17, 46, 47, 48, 49, 50, 51, 52, 53, 54, 55, 56, 57, 58, 59, 60, 61, 62, 63, 64, 65, 66, 67, 68, 69, 70, 71, 72, 73, 15, 74, 75, 76, 77, 78, 79, 80, 81, 82, 83, 84, 85, 14, 171, 172, 173, 174, 175, 176, 177, 20, 178, 89, 90, 91, 92, 93, 94, 95, 96, 97, 98, 99, 100, 101, 102, 103, 104, 179, 180, 181, 182, 183, 105, 106, 107, 108, 109, 236, 237, 238, 239] (by decide +kernel) (by decide +kernel)
set_option maxRecDepth 20000 in
theorem gJx00060_init_d00df_J4_append_bf812 : GoodIn wsJx00060_init_d00df (wsV RJx00060 19 RJ4 yJ4_append_bf812 wsJ4_append_bf812) := goodIn_app (goodIn_of _ (by decide +kernel)) ggJx00060_init_d00df_J4_append_bf812
set_option maxRecDepth 20000 in
theorem ggJx00060_init_d00df_J4_toString_0e30d : GoodIn wsJx00060_init_d00df wsJ4_toString_0e30d := goodIn_r _ [187, 188, 189, 98, 190, 191, 192, 193, 194, 195, 196, 12, 13, 120, 114, 119, 197, 198, 199, 200, 201, 9, 202, 16, 203, 204, 205, 206, 207, 3, 208, 209, 32, 210, 211, 35, 212, 82, 83, 84, 85, 14, 17, 213, 214, 66, 215, 68, 69, 70, 71, 72, 73, 216, 217, 218, 15, 74, 75, 58, 76, 77, 78, 79, 80, 219, 220, 221, 222, 2, 223, 224, 20, 225, 226, 227, 228, 144, 145, 146, 93, 94, 95, 147, 148, 149, 100, 150, 151, 103, 152, 229, 230, 231, 89, 108, 109, 22, 23, 24, 25, 232, 233, 234, 235, 240, 241, 242, 243, 236, 237, 238, 239] (by decide +kernel) (by decide +kernel)
set_option maxRecDepth 20000 in
theorem gJx00060_init_d00df_J4_toString_0e30d : GoodIn wsJx00060_init_d00df (wsV RJx00060 22 RJ4 yJ4_toString_0e30d wsJ4_toString_0e30d) := goodIn_app (goodIn_of _ (by decide +kernel)) ggJx00060_init_d00df_J4_toString_0e30d
theorem dJ6_bitCount_0f7a4_0 : decode cJ6_bitCount_0f7a4 0 = .ok (.iload_n 0, 1) := by decide +kernel
theorem dJ6_bitCount_0f7a4_1 : decode cJ6_bitCount_0f7a4 1 = .ok (.iload_n 0, 1) := by decide +kernel
theorem dJ6_bitCount_0f7a4_2 : decode cJ6_bitCount_0f7a4 2 = .ok (.iconst 1, 1) := by decide +kernel
theorem dJ6_bitCount_0f7a4_3 : decode cJ6_bitCount_0f7a4 3 = .ok (.iushr, 1) := by decide +kernel
theorem dJ6_bitCount_0f7a4_4 : decode cJ6_bitCount_0f7a4 4 = .ok (.ldc_w 265, 3) := by decide +kernel
theorem dJ6_bitCount_0f7a4_7 : decode cJ6_bitCount_0f7a4 7 = .ok (.iand, 1) := by decide +kernel
theorem dJ6_bitCount_0f7a4_8 : decode cJ6_bitCount_0f7a4 8 = .ok (.isub, 1) := by decide +kernel
theorem dJ6_bitCount_0f7a4_9 : decode cJ6_bitCount_0f7a4 9 = .ok (.istore_n 0, 1) := by decide +kernel
theorem dJ6_bitCount_0f7a4_10 : decode cJ6_bitCount_0f7a4 10 = .ok (.iload_n 0, 1) := by decide +kernel
theorem dJ6_bitCount_0f7a4_11 : decode cJ6_bitCount_0f7a4 11 = .ok (.ldc_w 266, 3) := by decide +kernel
theorem dJ6_bitCount_0f7a4_14 : decode cJ6_bitCount_0f7a4 14 = .ok (.iand, 1) := by decide +kernel
theorem dJ6_bitCount_0f7a4_15 : decode cJ6_bitCount_0f7a4 15 = .ok (.iload_n 0, 1) := by decide +kernel
theorem dJ6_bitCount_0f7a4_16 : decode cJ6_bitCount_0f7a4 16 = .ok (.iconst 2, 1) := by decide +kernel
theorem dJ6_bitCount_0f7a4_17 : decode cJ6_bitCount_0f7a4 17 = .ok (.iushr, 1) := by decide +kernel
theorem dJ6_bitCount_0f7a4_18 : decode cJ6_bitCount_0f7a4 18 = .ok (.ldc_w 266, 3) := by decide +kernel
theorem dJ6_bitCount_0f7a4_21 : decode cJ6_bitCount_0f7a4 21 = .ok (.iand, 1) := by decide +kernel
theorem dJ6_bitCount_0f7a4_22 : decode cJ6_bitCount_0f7a4 22 = .ok (.iadd, 1) := by decide +kernel
theorem dJ6_bitCount_0f7a4_23 : decode cJ6_bitCount_0f7a4 23 = .ok (.istore_n 0, 1) := by decide +kernel
theorem dJ6_bitCount_0f7a4_24 : decode cJ6_bitCount_0f7a4 24 = .ok (.iload_n 0, 1) := by decide +kernel
theorem dJ6_bitCount_0f7a4_25 : decode cJ6_bitCount_0f7a4 25 = .ok (.iload_n 0, 1) := by decide +kernel
theorem dJ6_bitCount_0f7a4_26 : decode cJ6_bitCount_0f7a4 26 = .ok (.iconst 4, 1) := by decide +kernel
theorem dJ6_bitCount_0f7a4_27 : decode cJ6_bitCount_0f7a4 27 = .ok (.iushr, 1) := by decide +kernel
theorem dJ6_bitCount_0f7a4_28 : decode cJ6_bitCount_0f7a4 28 = .ok (.iadd, 1) := by decide +kernel
theorem dJ6_bitCount_0f7a4_29 : decode cJ6_bitCount_0f7a4 29 = .ok (.ldc_w 267, 3) := by decide +kernel
theorem dJ6_bitCount_0f7a4_32 : decode cJ6_bitCount_0f7a4 32 = .ok (.iand, 1) := by decide +kernel
theorem dJ6_bitCount_0f7a4_33 : decode cJ6_bitCount_0f7a4 33 = .ok (.istore_n 0, 1) := by decide +kernel
theorem dJ6_bitCount_0f7a4_34 : decode cJ6_bitCount_0f7a4 34 = .ok (.iload_n 0, 1) := by decide +kernel
theorem dJ6_bitCount_0f7a4_35 : decode cJ6_bitCount_0f7a4 35 = .ok (.iload_n 0, 1) := by decide +kernel
theorem dJ6_bitCount_0f7a4_36 : decode cJ6_bitCount_0f7a4 36 = .ok (.bipush 8, 2) := by decide +kernel
theorem dJ6_bitCount_0f7a4_38 : decode cJ6_bitCount_0f7a4 38 = .ok (.iushr, 1) := by decide +kernel
theorem dJ6_bitCount_0f7a4_39 : decode cJ6_bitCount_0f7a4 39 = .ok (.iadd, 1) := by decide +kernel
theorem dJ6_bitCount_0f7a4_40 : decode cJ6_bitCount_0f7a4 40 = .ok (.istore_n 0, 1) := by decide +kernel
theorem dJ6_bitCount_0f7a4_41 : decode cJ6_bitCount_0f7a4 41 = .ok (.iload_n 0, 1) := by decide +kernel
theorem dJ6_bitCount_0f7a4_42 : decode cJ6_bitCount_0f7a4 42 = .ok (.iload_n 0, 1) := by decide +kernel
theorem dJ6_bitCount_0f7a4_43 : decode cJ6_bitCount_0f7a4 43 = .ok (.bipush 16, 2) := by decide +kernel
theorem dJ6_bitCount_0f7a4_45 : decode cJ6_bitCount_0f7a4 45 = .ok (.iushr, 1) := by decide +kernel
theorem dJ6_bitCount_0f7a4_46 : decode cJ6_bitCount_0f7a4 46 = .ok (.iadd, 1) := by decide +kernel
theorem dJ6_bitCount_0f7a4_47 : decode cJ6_bitCount_0f7a4 47 = .ok (.istore_n 0, 1) := by decide +kernel
theorem dJ6_bitCount_0f7a4_48 : decode cJ6_bitCount_0f7a4 48 = .ok (.iload_n 0, 1) := by decide +kernel
theorem dJ6_bitCount_0f7a4_49 : decode cJ6_bitCount_0f7a4 49 = .ok (.bipush 63, 2) := by decide +kernel
theorem dJ6_bitCount_0f7a4_51 : decode cJ6_bitCount_0f7a4 51 = .ok (.iand, 1) := by decide +kernel
theorem dJ6_bitCount_0f7a4_52 : decode cJ6_bitCount_0f7a4 52 = .ok (.ireturn, 1) := by decide +kernel
theorem dJ9_max_7cf53_0 : decode cJ9_max_7cf53 0 = .ok (.iload_n 0, 1) := by decide +kernel
theorem dJ9_max_7cf53_1 : decode cJ9_max_7cf53 1 = .ok (.iload_n 1, 1) := by decide +kernel
theorem dJ9_max_7cf53_2 : decode cJ9_max_7cf53 2 = .ok (.if_icmp .lt 7, 3) := by decide +kernel
theorem dJ9_max_7cf53_5 : decode cJ9_max_7cf53 5 = .ok (.iload_n 0, 1) := by decide +kernel
theorem dJ9_max_7cf53_6 : decode cJ9_max_7cf53 6 = .ok (.goto 4, 3) := by decide +kernel
theorem dJ9_max_7cf53_9 : decode cJ9_max_7cf53 9 = .ok (.iload_n 1, 1) := by decide +kernel
theorem dJ9_max_7cf53_10 : decode cJ9_max_7cf53 10 = .ok (.ireturn, 1) := by decide +kernel
theorem dJ9_min_7cf53_0 : decode cJ9_min_7cf53 0 = .ok (.iload_n 0, 1) := by decide +kernel
theorem dJ9_min_7cf53_1 : decode cJ9_min_7cf53 1 = .ok (.iload_n 1, 1) := by decide +kernel
theorem dJ9_min_7cf53_2 : decode cJ9_min_7cf53 2 = .ok (.if_icmp .gt 7, 3) := by decide +kernel
theorem dJ9_min_7cf53_5 : decode cJ9_min_7cf53 5 = .ok (.iload_n 0, 1) := by decide +kernel
theorem dJ9_min_7cf53_6 : decode cJ9_min_7cf53 6 = .ok (.goto 4, 3) := by decide +kernel
theorem dJ9_min_7cf53_9 : decode cJ9_min_7cf53 9 = .ok (.iload_n 1, 1) := by decide +kernel
theorem dJ9_min_7cf53_10 : decode cJ9_min_7cf53 10 = .ok (.ireturn, 1) := by decide +kernel
set_option maxRecDepth 20000 in
theorem ggJ0_init_81219_J0_init_db425 : GoodIn wsJ0_init_81219 wsJ0_init_db425 := goodIn_r _ [4, 5, 6, 7, 8, 9, 10, 11, 12, 13, 14, 15, 16, 17, 18, 19, 20, 21, 22, 23, 24, 25, 26, 27, 28, 29, 30, 31, 32, 33, 34, 35, 36, 37, 38, 39, 40, 41, 42, 43, 44, 45, 46, 47, 48, 49, 50, 51, 52, 53, 54, 55, 56, 57, 58, 59, 60, 61, 62, 63, 64, 65, 66, 67, 68, 69, 70, 71, 72, 73, 74, 75, 76, 77, 78, 79, 3, 80, 81, 82, 83, 84, 85, 86, 87, 88, 89, 90, 91, 92, 93, 94, 95, 96, 97, 98, 99, 100, 101, 102, 103, 104, 105, 106, 107] (by decide +kernel) (by decide +kernel)
set_option maxRecDepth 20000 in
theorem gJ0_init_81219_J0_init_db425 : GoodIn wsJ0_init_81219 (wsJ0_init_db425) := ggJ0_init_81219_J0_init_db425
set_option maxRecDepth 20000 in
theorem ggJ0_length_8abf5_J0_coder_7d493 : GoodIn wsJ0_length_8abf5 wsJ0_coder_7d493 := goodIn_r _ [6, 7, 8, 9, 10, 11, 12] (by decide +kernel) (by decide +kernel)
set_option maxRecDepth 20000 in
theorem gJ0_length_8abf5_J0_coder_7d493 : GoodIn wsJ0_length_8abf5 (wsV RJ0 335 RJ0 yJ0_coder_7d493 wsJ0_coder_7d493) := goodIn_app (goodIn_of _ (by decide +kernel)) ggJ0_length_8abf5_J0_coder_7d493
set_option maxRecDepth 20000 in
theorem ggJ0_getBytes_840e7_J0_coder_7d493 : GoodIn wsJ0_getBytes_840e7 wsJ0_coder_7d493 := goodIn_r _ [10, 11, 12, 41, 42, 43, 44] (by decide +kernel) (by decide +kernel)
set_option maxRecDepth 20000 in
theorem gJ0_getBytes_840e7_J0_coder_7d493 : GoodIn wsJ0_getBytes_840e7 (wsV RJ0 335 RJ0 yJ0_coder_7d493 wsJ0_coder_7d493) := goodIn_app (goodIn_of _ (by decide +kernel)) ggJ0_getBytes_840e7_J0_coder_7d493
set_option maxRecDepth 20000 in
theorem ggJ0_getBytes_840e7_J1_inflate_0e8fd : GoodIn wsJ0_getBytes_840e7 wsJ1_inflate_0e8fd := goodIn_r _ [16, 17, 18, 19, 20, 21, 22, 23, 24, 25, 26, 27, 28, 9, 29, 30, 31, 32, 33, 34, 35, 36, 37, 38, 39, 40] (by decide +kernel) (by decide +kernel)
set_option maxRecDepth 20000 in
theorem gJ0_getBytes_840e7_J1_inflate_0e8fd : GoodIn wsJ0_getBytes_840e7 (va_wsS RJ0 106 yJ1_inflate_0e8fd wsJ1_inflate_0e8fd) := goodIn_app (goodIn_of _ (by decide +kernel)) ggJ0_getBytes_840e7_J1_inflate_0e8fd
set_option maxRecDepth 20000 in
theorem ggJ0_init_db425_J5_getValue_6d5f1 : GoodIn wsJ0_init_db425 wsJ5_getValue_6d5f1 := goodIn_r _ [13, 14, 101, 102, 103, 104] (by decide +kernel) (by decide +kernel)
set_option maxRecDepth 20000 in
theorem gJ0_init_db425_J5_getValue_6d5f1_u552J4 : GoodIn wsJ0_init_db425 (va_wsU RJ0 552 RJ4 "java/lang/AbstractStringBuilder" ⟨"java/lang/AbstractStringBuilder", "getValue", "()[B"⟩ yJ5_getValue_6d5f1 wsJ5_getValue_6d5f1) := goodIn_app (goodIn_of _ (by decide +kernel)) ggJ0_init_db425_J5_getValue_6d5f1
set_option maxRecDepth 20000 in
theorem ggJ0_init_db425_J4_length_8abf5 : GoodIn wsJ0_init_db425 wsJ4_length_8abf5 := goodIn_r _ [21, 22, 16, 23, 24, 12, 25, 26, 101, 102, 103, 104] (by decide +kernel) (by decide +kernel)
set_option maxRecDepth 20000 in
theorem gJ0_init_db425_J4_length_8abf5_u549J4 : GoodIn wsJ0_init_db425 (va_wsO RJ0 549 RJ4 "java/lang/AbstractStringBuilder" ⟨"java/lang/AbstractStringBuilder", "length", "()I"⟩ yJ4_length_8abf5 wsJ4_length_8abf5) := goodIn_app (goodIn_of _ (by decide +kernel)) ggJ0_init_db425_J4_length_8abf5
set_option maxRecDepth 20000 in
theorem ggJ0_init_db425_J5_isLatin1_aae02 : GoodIn wsJ0_init_db425 wsJ5_isLatin1_aae02 := goodIn_r _ [31, 32, 33, 101, 102, 103, 104] (by decide +kernel) (by decide +kernel)
set_option maxRecDepth 20000 in
theorem gJ0_init_db425_J5_isLatin1_aae02_u1047J4 : GoodIn wsJ0_init_db425 (va_wsU RJ0 1047 RJ4 "java/lang/AbstractStringBuilder" ⟨"java/lang/AbstractStringBuilder", "isLatin1", "()Z"⟩ yJ5_isLatin1_aae02 wsJ5_isLatin1_aae02) := goodIn_app (goodIn_of _ (by decide +kernel)) ggJ0_init_db425_J5_isLatin1_aae02
set_option maxRecDepth 20000 in
theorem ggJ0_init_db425_J7_copyOfRange_39247 : GoodIn wsJ0_init_db425 wsJ7_copyOfRange_39247 := goodIn_r _ [37, 38, 39, 40, 41, 42, 43, 44, 45, 36, 46, 47, 48, 49, 50, 51, 52, 53, 54, 55, 56, 57, 58, 59, 60, 20, 101, 102, 103, 104] (by decide +kernel) (by decide +kernel)
set_option maxRecDepth 20000 in
theorem gJ0_init_db425_J7_copyOfRange_39247 : GoodIn wsJ0_init_db425 (va_wsS RJ0 54 yJ7_copyOfRange_39247 wsJ7_copyOfRange_39247) := goodIn_app (goodIn_of _ (by decide +kernel)) ggJ0_init_db425_J7_copyOfRange_39247
set_option maxRecDepth 20000 in
theorem ggJ0_init_db425_J2_compress_39247 : GoodIn wsJ0_init_db425 wsJ2_compress_39247 := goodIn_r _ [64, 47, 65, 66, 63, 67, 68, 69, 70, 71, 72, 73, 74, 75, 76, 77, 78, 79, 80, 81, 82, 83, 84, 85, 86, 87, 88, 89, 90, 91, 92, 93, 35, 36, 37, 38, 39, 40, 41, 42, 43, 44, 45, 46, 48, 49, 50, 51, 52, 53, 54, 55, 56, 57, 58, 59, 60, 20, 101, 102, 103, 104] (by decide +kernel) (by decide +kernel)
set_option maxRecDepth 20000 in
theorem gJ0_init_db425_J2_compress_39247 : GoodIn wsJ0_init_db425 (va_wsS RJ0 1051 yJ2_compress_39247 wsJ2_compress_39247) := goodIn_app (goodIn_of _ (by decide +kernel)) ggJ0_init_db425_J2_compress_39247
set_option maxRecDepth 20000 in
theorem ggJ0_init_db425_J2_coderFromArrayLen_85cad : GoodIn wsJ0_init_db425 wsJ2_coderFromArrayLen_85cad := goodIn_r _ [96] (by decide +kernel) (by decide +kernel)
set_option maxRecDepth 20000 in
theorem gJ0_init_db425_J2_coderFromArrayLen_85cad : GoodIn wsJ0_init_db425 (va_wsS RJ0 47 yJ2_coderFromArrayLen_85cad wsJ2_coderFromArrayLen_85cad) := goodIn_app (goodIn_of _ (by decide +kernel)) ggJ0_init_db425_J2_coderFromArrayLen_85cad
set_option maxRecDepth 20000 in
theorem ggJ0_checkBoundsOffCount_cabcc_J3_checkFromIndexSize_8c36e : GoodIn wsJ0_checkBoundsOffCount_cabcc wsJ3_checkFromIndexSize_8c36e := goodIn_r _ [5] (by decide +kernel) (by decide +kernel)
set_option maxRecDepth 20000 in
theorem gJ0_checkBoundsOffCount_cabcc_J3_checkFromIndexSize_8c36e : GoodIn wsJ0_checkBoundsOffCount_cabcc (va_wsS RJ0 1065 yJ3_checkFromIndexSize_8c36e wsJ3_checkFromIndexSize_8c36e) := goodIn_app (goodIn_of _ (by decide +kernel)) ggJ0_checkBoundsOffCount_cabcc_J3_checkFromIndexSize_8c36e
set_option maxRecDepth 20000 in
theorem ggJ0_checkBoundsBeginEnd_23922_J3_checkFromToIndex_8c36e : GoodIn wsJ0_checkBoundsBeginEnd_23922 wsJ3_checkFromToIndex_8c36e := goodIn_r _ [5] (by decide +kernel) (by decide +kernel)
set_option maxRecDepth 20000 in
theorem gJ0_checkBoundsBeginEnd_23922_J3_checkFromToIndex_8c36e : GoodIn wsJ0_checkBoundsBeginEnd_23922 (va_wsS RJ0 1062 yJ3_checkFromToIndex_8c36e wsJ3_checkFromToIndex_8c36e) := goodIn_app (goodIn_of _ (by decide +kernel)) ggJ0_checkBoundsBeginEnd_23922_J3_checkFromToIndex_8c36e
set_option maxRecDepth 20000 in
theorem ggJ4_init_da8c8_J5_init_d00df : GoodIn wsJ4_init_da8c8 wsJ5_init_d00df := goodIn_r _ [4, 5, 6, 7, 8, 9, 10, 11, 12, 13, 14, 15, 16, 17, 18, 19, 20, 21, 22, 23] (by decide +kernel) (by decide +kernel)
set_option maxRecDepth 20000 in
theorem gJ4_init_da8c8_J5_init_d00df : GoodIn wsJ4_init_da8c8 (wsJ5_init_d00df) := ggJ4_init_da8c8_J5_init_d00df
set_option maxRecDepth 20000 in
theorem ggJ4_append_15ec4_J5_append_cf1ce : GoodIn wsJ4_append_15ec4 wsJ5_append_cf1ce := goodIn_r _ [6, 7, 8, 9, 10, 11, 5, 12, 13, 14, 15, 16, 17, 18, 19, 20, 21, 22, 23, 24, 25, 26, 27, 28, 29, 30, 31, 32, 33, 34, 35, 36, 37, 38, 39, 40, 41, 42, 43, 44, 45, 46, 47, 48, 49, 50, 51, 52, 53, 54, 55, 56, 57, 58, 59, 60, 61, 62, 63, 64, 65, 66, 67, 68, 69, 70, 71, 72, 73, 74, 75, 76, 77, 78, 79, 80, 81, 82, 83, 84, 85, 86, 87, 88, 89, 90, 91, 92, 93, 94, 95, 96, 97, 98, 99, 100, 101, 102, 103, 104, 105, 106, 107, 108, 109, 110, 111, 112, 113, 114, 115, 116, 117, 118, 119, 120, 121, 122, 123, 124, 125, 126, 127, 128, 129, 130, 131, 132, 133, 134, 135, 136, 137, 138, 139, 140, 141, 142, 143, 144, 145, 146, 147, 148, 149, 150] (by decide +kernel) (by decide +kernel)
set_option maxRecDepth 20000 in
theorem gJ4_append_15ec4_J5_append_cf1ce_s29 : GoodIn wsJ4_append_15ec4 (va_wsSU RJ4 29 yJ5_append_cf1ce wsJ5_append_cf1ce) := goodIn_app (goodIn_of _ (by decide +kernel)) ggJ4_append_15ec4_J5_append_cf1ce
set_option maxRecDepth 20000 in
theorem ggJ4_append_bf812_J5_append_c97b9 : GoodIn wsJ4_append_bf812 wsJ5_append_c97b9 := goodIn_r _ [6, 7, 8, 9, 10, 11, 12, 13, 14, 15, 16, 5, 17, 18, 19, 20, 21, 22, 23, 24, 25, 26, 27, 28, 29, 30, 31, 32, 33, 34, 35, 36, 37, 38, 39, 40, 41, 42, 43, 44, 45, 46, 47, 48, 49, 50, 51, 52, 53, 54, 55, 56, 57, 58, 59, 60, 61, 62, 63, 64, 65, 66, 67, 68, 69, 70, 71, 72, 73, 74, 75, 76, 77, 78, 79, 80, 81, 82, 83, 84, 85, 86, 87, 88, 89, 90, 91, 92, 93, 94, 95, 96, 97, 98, 99] (by decide +kernel) (by decide +kernel)
set_option maxRecDepth 20000 in
theorem gJ4_append_bf812_J5_append_c97b9_s53 : GoodIn wsJ4_append_bf812 (va_wsSU RJ4 53 yJ5_append_c97b9 wsJ5_append_c97b9) := goodIn_app (goodIn_of _ (by decide +kernel)) ggJ4_append_bf812_J5_append_c97b9
set_option maxRecDepth 20000 in
theorem ggJ4_toString_0e30d_J0_init_81219 : GoodIn wsJ4_toString_0e30d wsJ0_init_81219 := goodIn_r _ [6, 7, 8, 3, 9, 10, 11, 12, 13, 14, 15, 16, 17, 18, 19, 20, 21, 22, 23, 24, 25, 26, 27, 28, 29, 30, 31, 32, 33, 34, 35, 36, 37, 38, 39, 40, 41, 42, 43, 44, 45, 46, 47, 48, 49, 50, 51, 52, 53, 54, 55, 56, 57, 58, 59, 60, 61, 62, 63, 64, 65, 66, 67, 68, 69, 70, 71, 72, 73, 74, 75, 76, 77, 78, 79, 80, 81, 82, 83, 84, 85, 86, 87, 88, 89, 90, 91, 92, 93, 94, 95, 96, 97, 98, 99, 100, 101, 102, 103, 104, 105, 106, 107, 108, 109, 110, 111, 112] (by decide +kernel) (by decide +kernel)
set_option maxRecDepth 20000 in
theorem gJ4_toString_0e30d_J0_init_81219 : GoodIn wsJ4_toString_0e30d (wsJ0_init_81219) := ggJ4_toString_0e30d_J0_init_81219
set_option maxRecDepth 20000 in
theorem ggJ4_length_8abf5_J5_length_8abf5 : GoodIn wsJ4_length_8abf5 wsJ5_length_8abf5 := goodIn_r _ [6, 7, 8, 9, 10, 11] (by decide +kernel) (by decide +kernel)
set_option maxRecDepth 20000 in
theorem gJ4_length_8abf5_J5_length_8abf5_s343 : GoodIn wsJ4_length_8abf5 (va_wsSU RJ4 343 yJ5_length_8abf5 wsJ5_length_8abf5) := goodIn_app (goodIn_of _ (by decide +kernel)) ggJ4_length_8abf5_J5_length_8abf5
set_option maxRecDepth 20000 in
theorem ggJ1_inflate_0e8fd_J2_inflate_0e8fd : GoodIn wsJ1_inflate_0e8fd wsJ2_inflate_0e8fd := goodIn_r _ [4, 5, 6, 3, 7, 8, 9, 10, 11, 12, 13, 14, 15, 16, 17, 18, 19, 20, 21, 22, 23, 24, 25] (by decide +kernel) (by decide +kernel)
set_option maxRecDepth 20000 in
theorem gJ1_inflate_0e8fd_J2_inflate_0e8fd : GoodIn wsJ1_inflate_0e8fd (va_wsS RJ1 240 yJ2_inflate_0e8fd wsJ2_inflate_0e8fd) := goodIn_app (goodIn_of _ (by decide +kernel)) ggJ1_inflate_0e8fd_J2_inflate_0e8fd
set_option maxRecDepth 20000 in
theorem ggJ2_newBytesFor_77867_J2_newBytesLength_0f7a4 : GoodIn wsJ2_newBytesFor_77867 wsJ2_newBytesLength_0f7a4 := goodIn_r _ [5, 6] (by decide +kernel) (by decide +kernel)
set_option maxRecDepth 20000 in
theorem gJ2_newBytesFor_77867_J2_newBytesLength_0f7a4 : GoodIn wsJ2_newBytesFor_77867 (va_wsS RJ2 11 yJ2_newBytesLength_0f7a4 wsJ2_newBytesLength_0f7a4) := goodIn_app (goodIn_of _ (by decide +kernel)) ggJ2_newBytesFor_77867_J2_newBytesLength_0f7a4
set_option maxRecDepth 20000 in
theorem ggJ2_putChar_b72d1_J2_length_9d52b : GoodIn wsJ2_putChar_b72d1 wsJ2_length_9d52b := goodIn_r _ [7] (by decide +kernel) (by decide +kernel)
set_option maxRecDepth 20000 in
theorem gJ2_putChar_b72d1_J2_length_9d52b : GoodIn wsJ2_putChar_b72d1 (va_wsS RJ2 48 yJ2_length_9d52b wsJ2_length_9d52b) := goodIn_app (goodIn_of _ (by decide +kernel)) ggJ2_putChar_b72d1_J2_length_9d52b
set_option maxRecDepth 20000 in
theorem ggJ2_getChar_3b067_J2_length_9d52b : GoodIn wsJ2_getChar_3b067 wsJ2_length_9d52b := goodIn_r _ [7] (by decide +kernel) (by decide +kernel)
set_option maxRecDepth 20000 in
theorem gJ2_getChar_3b067_J2_length_9d52b : GoodIn wsJ2_getChar_3b067 (va_wsS RJ2 48 yJ2_length_9d52b wsJ2_length_9d52b) := goodIn_app (goodIn_of _ (by decide +kernel)) ggJ2_getChar_3b067_J2_length_9d52b
set_option maxRecDepth 20000 in
theorem ggJ2_compress_39247_J2_compress_5af95 : GoodIn wsJ2_compress_39247 wsJ2_compress_5af95 := goodIn_r _ [5, 6, 7, 4, 8, 9, 10, 11, 12, 13, 14, 15, 16, 17, 18, 19, 20, 21, 22, 23, 24, 25, 26] (by decide +kernel) (by decide +kernel)
set_option maxRecDepth 20000 in
theorem gJ2_compress_39247_J2_compress_5af95 : GoodIn wsJ2_compress_39247 (va_wsS RJ2 123 yJ2_compress_5af95 wsJ2_compress_5af95) := goodIn_app (goodIn_of _ (by decide +kernel)) ggJ2_compress_39247_J2_compress_5af95
set_option maxRecDepth 20000 in
theorem ggJ2_compress_39247_J2_newBytesLength_0f7a4 : GoodIn wsJ2_compress_39247 wsJ2_newBytesLength_0f7a4 := goodIn_r _ [29, 30] (by decide +kernel) (by decide +kernel)
set_option maxRecDepth 20000 in
theorem gJ2_compress_39247_J2_newBytesLength_0f7a4 : GoodIn wsJ2_compress_39247 (va_wsS RJ2 11 yJ2_newBytesLength_0f7a4 wsJ2_newBytesLength_0f7a4) := goodIn_app (goodIn_of _ (by decide +kernel)) ggJ2_compress_39247_J2_newBytesLength_0f7a4
set_option maxRecDepth 20000 in
theorem ggJ2_compress_39247_J7_copyOfRange_39247 : GoodIn wsJ2_compress_39247 wsJ7_copyOfRange_39247 := goodIn_r _ [34, 35, 36, 37, 38, 39, 40, 41, 42, 33, 43, 1, 44, 45, 46, 47, 48, 49, 50, 51, 52, 53, 54, 55, 56, 57, 58, 59, 60, 61] (by decide +kernel) (by decide +kernel)
set_option maxRecDepth 20000 in
theorem gJ2_compress_39247_J7_copyOfRange_39247 : GoodIn wsJ2_compress_39247 (va_wsS RJ2 126 yJ7_copyOfRange_39247 wsJ7_copyOfRange_39247) := goodIn_app (goodIn_of _ (by decide +kernel)) ggJ2_compress_39247_J7_copyOfRange_39247
set_option maxRecDepth 20000 in
theorem ggJ2_compress_39247_J2_getChar_3b067 : GoodIn wsJ2_compress_39247 wsJ2_getChar_3b067 := goodIn_r _ [23, 24, 25, 26, 9, 10, 4, 11] (by decide +kernel) (by decide +kernel)
set_option maxRecDepth 20000 in
theorem gJ2_compress_39247_J2_getChar_3b067 : GoodIn wsJ2_compress_39247 (va_wsS RJ2 71 yJ2_getChar_3b067 wsJ2_getChar_3b067) := goodIn_app (goodIn_of _ (by decide +kernel)) ggJ2_compress_39247_J2_getChar_3b067
set_option maxRecDepth 20000 in
theorem ggJ2_compress_5af95_J2_checkBoundsOffCount_d044e : GoodIn wsJ2_compress_5af95 wsJ2_checkBoundsOffCount_d044e := goodIn_r _ [4, 5, 6, 3, 7, 8, 9, 10, 11, 12, 13, 14, 15, 16] (by decide +kernel) (by decide +kernel)
set_option maxRecDepth 20000 in
theorem gJ2_compress_5af95_J2_checkBoundsOffCount_d044e : GoodIn wsJ2_compress_5af95 (va_wsS RJ2 173 yJ2_checkBoundsOffCount_d044e wsJ2_checkBoundsOffCount_d044e) := goodIn_app (goodIn_of _ (by decide +kernel)) ggJ2_compress_5af95_J2_checkBoundsOffCount_d044e
set_option maxRecDepth 20000 in
theorem ggJ2_compress_5af95_J2_getChar_3b067 : GoodIn wsJ2_compress_5af95 wsJ2_getChar_3b067 := goodIn_r _ [19, 20, 21, 22, 5, 6, 3, 7] (by decide +kernel) (by decide +kernel)
set_option maxRecDepth 20000 in
theorem gJ2_compress_5af95_J2_getChar_3b067 : GoodIn wsJ2_compress_5af95 (va_wsS RJ2 71 yJ2_getChar_3b067 wsJ2_getChar_3b067) := goodIn_app (goodIn_of _ (by decide +kernel)) ggJ2_compress_5af95_J2_getChar_3b067
set_option maxRecDepth 20000 in
theorem ggJ2_getChars_46870_J2_checkBoundsBeginEnd_d044e : GoodIn wsJ2_getChars_46870 wsJ2_checkBoundsBeginEnd_d044e := goodIn_r _ [5, 6, 7, 4, 8, 9, 10, 11, 12, 13, 14, 15, 16, 17] (by decide +kernel) (by decide +kernel)
set_option maxRecDepth 20000 in
theorem gJ2_getChars_46870_J2_checkBoundsBeginEnd_d044e : GoodIn wsJ2_getChars_46870 (va_wsS RJ2 96 yJ2_checkBoundsBeginEnd_d044e wsJ2_checkBoundsBeginEnd_d044e) := goodIn_app (goodIn_of _ (by decide +kernel)) ggJ2_getChars_46870_J2_checkBoundsBeginEnd_d044e
set_option maxRecDepth 20000 in
theorem ggJ2_getChars_46870_J2_getChars_ba4f3 : GoodIn wsJ2_getChars_46870 wsJ2_getChars_ba4f3 := goodIn_r _ [20, 21, 22, 23, 24, 4, 25, 1, 26, 27, 6, 7, 8] (by decide +kernel) (by decide +kernel)
set_option maxRecDepth 20000 in
theorem gJ2_getChars_46870_J2_getChars_ba4f3 : GoodIn wsJ2_getChars_46870 (va_wsS RJ2 393 yJ2_getChars_ba4f3 wsJ2_getChars_ba4f3) := goodIn_app (goodIn_of _ (by decide +kernel)) ggJ2_getChars_46870_J2_getChars_ba4f3
set_option maxRecDepth 20000 in
theorem ggJ2_putCharsAt_cd4e5_J2_checkBoundsBeginEnd_d044e : GoodIn wsJ2_putCharsAt_cd4e5 wsJ2_checkBoundsBeginEnd_d044e := goodIn_r _ [5, 6, 7, 4, 8, 9, 10, 11, 12, 13, 14, 15, 16, 17] (by decide +kernel) (by decide +kernel)
set_option maxRecDepth 20000 in
theorem gJ2_putCharsAt_cd4e5_J2_checkBoundsBeginEnd_d044e : GoodIn wsJ2_putCharsAt_cd4e5 (va_wsS RJ2 96 yJ2_checkBoundsBeginEnd_d044e wsJ2_checkBoundsBeginEnd_d044e) := goodIn_app (goodIn_of _ (by decide +kernel)) ggJ2_putCharsAt_cd4e5_J2_checkBoundsBeginEnd_d044e
set_option maxRecDepth 20000 in
theorem ggJ2_putCharsAt_cd4e5_J2_putChar_b72d1 : GoodIn wsJ2_putCharsAt_cd4e5 wsJ2_putChar_b72d1 := goodIn_r _ [20, 1, 21, 22, 6, 7, 4, 8] (by decide +kernel) (by decide +kernel)
set_option maxRecDepth 20000 in
theorem gJ2_putCharsAt_cd4e5_J2_putChar_b72d1 : GoodIn wsJ2_putCharsAt_cd4e5 (va_wsS RJ2 111 yJ2_putChar_b72d1 wsJ2_putChar_b72d1) := goodIn_app (goodIn_of _ (by decide +kernel)) ggJ2_putCharsAt_cd4e5_J2_putChar_b72d1
set_option maxRecDepth 20000 in
theorem ggJ2_inflate_0e8fd_J2_checkBoundsOffCount_d044e : GoodIn wsJ2_inflate_0e8fd wsJ2_checkBoundsOffCount_d044e := goodIn_r _ [4, 5, 6, 3, 7, 8, 9, 10, 11, 12, 13, 14, 15, 16] (by decide +kernel) (by decide +kernel)
set_option maxRecDepth 20000 in
theorem gJ2_inflate_0e8fd_J2_checkBoundsOffCount_d044e : GoodIn wsJ2_inflate_0e8fd (va_wsS RJ2 173 yJ2_checkBoundsOffCount_d044e wsJ2_checkBoundsOffCount_d044e) := goodIn_app (goodIn_of _ (by decide +kernel)) ggJ2_inflate_0e8fd_J2_checkBoundsOffCount_d044e
set_option maxRecDepth 20000 in
theorem ggJ2_inflate_0e8fd_J2_putChar_b72d1 : GoodIn wsJ2_inflate_0e8fd wsJ2_putChar_b72d1 := goodIn_r _ [19, 20, 21, 22, 5, 6, 3, 7] (by decide +kernel) (by decide +kernel)
set_option maxRecDepth 20000 in
theorem gJ2_inflate_0e8fd_J2_putChar_b72d1 : GoodIn wsJ2_inflate_0e8fd (va_wsS RJ2 111 yJ2_putChar_b72d1 wsJ2_putChar_b72d1) := goodIn_app (goodIn_of _ (by decide +kernel)) ggJ2_inflate_0e8fd_J2_putChar_b72d1
set_option maxRecDepth 20000 in
theorem ggJ2_getChars_ba4f3_J2_putChar_b72d1 : GoodIn wsJ2_getChars_ba4f3 wsJ2_putChar_b72d1 := goodIn_r _ [6, 7, 8, 9, 10, 11, 5, 12] (by decide +kernel) (by decide +kernel)
set_option maxRecDepth 20000 in
theorem gJ2_getChars_ba4f3_J2_putChar_b72d1 : GoodIn wsJ2_getChars_ba4f3 (va_wsS RJ2 111 yJ2_putChar_b72d1 wsJ2_putChar_b72d1) := goodIn_app (goodIn_of _ (by decide +kernel)) ggJ2_getChars_ba4f3_J2_putChar_b72d1
set_option maxRecDepth 20000 in
theorem ggJ2_checkBoundsBeginEnd_d044e_J2_length_9d52b : GoodIn wsJ2_checkBoundsBeginEnd_d044e wsJ2_length_9d52b := goodIn_r _ [4] (by decide +kernel) (by decide +kernel)
set_option maxRecDepth 20000 in
theorem gJ2_checkBoundsBeginEnd_d044e_J2_length_9d52b : GoodIn wsJ2_checkBoundsBeginEnd_d044e (va_wsS RJ2 48 yJ2_length_9d52b wsJ2_length_9d52b) := goodIn_app (goodIn_of _ (by decide +kernel)) ggJ2_checkBoundsBeginEnd_d044e_J2_length_9d52b
set_option maxRecDepth 20000 in
theorem ggJ2_checkBoundsBeginEnd_d044e_J0_checkBoundsBeginEnd_23922 : GoodIn wsJ2_checkBoundsBeginEnd_d044e wsJ0_checkBoundsBeginEnd_23922 := goodIn_r _ [8, 9, 10, 11, 12, 13] (by decide +kernel) (by decide +kernel)
set_option maxRecDepth 20000 in
theorem gJ2_checkBoundsBeginEnd_d044e_J0_checkBoundsBeginEnd_23922 : GoodIn wsJ2_checkBoundsBeginEnd_d044e (va_wsS RJ2 241 yJ0_checkBoundsBeginEnd_23922 wsJ0_checkBoundsBeginEnd_23922) := goodIn_app (goodIn_of _ (by decide +kernel)) ggJ2_checkBoundsBeginEnd_d044e_J0_checkBoundsBeginEnd_23922
set_option maxRecDepth 20000 in
theorem ggJ2_checkBoundsOffCount_d044e_J2_length_9d52b : GoodIn wsJ2_checkBoundsOffCount_d044e wsJ2_length_9d52b := goodIn_r _ [4] (by decide +kernel) (by decide +kernel)
set_option maxRecDepth 20000 in
theorem gJ2_checkBoundsOffCount_d044e_J2_length_9d52b : GoodIn wsJ2_checkBoundsOffCount_d044e (va_wsS RJ2 48 yJ2_length_9d52b wsJ2_length_9d52b) := goodIn_app (goodIn_of _ (by decide +kernel)) ggJ2_checkBoundsOffCount_d044e_J2_length_9d52b
set_option maxRecDepth 20000 in
theorem ggJ2_checkBoundsOffCount_d044e_J0_checkBoundsOffCount_cabcc : GoodIn wsJ2_checkBoundsOffCount_d044e wsJ0_checkBoundsOffCount_cabcc := goodIn_r _ [8, 9, 10, 11, 12, 13] (by decide +kernel) (by decide +kernel)
set_option maxRecDepth 20000 in
theorem gJ2_checkBoundsOffCount_d044e_J0_checkBoundsOffCount_cabcc : GoodIn wsJ2_checkBoundsOffCount_d044e (va_wsS RJ2 419 yJ0_checkBoundsOffCount_cabcc wsJ0_checkBoundsOffCount_cabcc) := goodIn_app (goodIn_of _ (by decide +kernel)) ggJ2_checkBoundsOffCount_d044e_J0_checkBoundsOffCount_cabcc
theorem dJ7_rangeCheck_23922_0 : decode cJ7_rangeCheck_23922 0 = .ok (.iload_n 1, 1) := by decide +kernel
theorem dJ7_rangeCheck_23922_1 : decode cJ7_rangeCheck_23922 1 = .ok (.iload_n 2, 1) := by decide +kernel
theorem dJ7_rangeCheck_23922_2 : decode cJ7_rangeCheck_23922 2 = .ok (.if_icmp .le 44, 3) := by decide +kernel
theorem dJ7_rangeCheck_23922_5 : decode cJ7_rangeCheck_23922 5 = .ok (.new 43, 3) := by decide +kernel
theorem dJ7_rangeCheck_23922_8 : decode cJ7_rangeCheck_23922 8 = .ok (.dup, 1) := by decide +kernel
theorem dJ7_rangeCheck_23922_9 : decode cJ7_rangeCheck_23922 9 = .ok (.new 45, 3) := by decide +kernel
theorem dJ7_rangeCheck_23922_12 : decode cJ7_rangeCheck_23922 12 = .ok (.dup, 1) := by decide +kernel
theorem dJ7_rangeCheck_23922_13 : decode cJ7_rangeCheck_23922 13 = .ok (.invokespecial 47, 3) := by decide +kernel
theorem dJ7_rangeCheck_23922_16 : decode cJ7_rangeCheck_23922 16 = .ok (.ldc 48, 2) := by decide +kernel
theorem dJ7_rangeCheck_23922_18 : decode cJ7_rangeCheck_23922 18 = .ok (.invokevirtual 50, 3) := by decide +kernel
theorem dJ7_rangeCheck_23922_21 : decode cJ7_rangeCheck_23922 21 = .ok (.iload_n 1, 1) := by decide +kernel
theorem dJ7_rangeCheck_23922_22 : decode cJ7_rangeCheck_23922 22 = .ok (.invokevirtual 54, 3) := by decide +kernel
theorem dJ7_rangeCheck_23922_25 : decode cJ7_rangeCheck_23922 25 = .ok (.ldc 57, 2) := by decide +kernel
theorem dJ7_rangeCheck_23922_27 : decode cJ7_rangeCheck_23922 27 = .ok (.invokevirtual 50, 3) := by decide +kernel
theorem dJ7_rangeCheck_23922_30 : decode cJ7_rangeCheck_23922 30 = .ok (.iload_n 2, 1) := by decide +kernel
theorem dJ7_rangeCheck_23922_31 : decode cJ7_rangeCheck_23922 31 = .ok (.invokevirtual 54, 3) := by decide +kernel
theorem dJ7_rangeCheck_23922_34 : decode cJ7_rangeCheck_23922 34 = .ok (.ldc 59, 2) := by decide +kernel
theorem dJ7_rangeCheck_23922_36 : decode cJ7_rangeCheck_23922 36 = .ok (.invokevirtual 50, 3) := by decide +kernel
theorem dJ7_rangeCheck_23922_39 : decode cJ7_rangeCheck_23922 39 = .ok (.invokevirtual 61, 3) := by decide +kernel
theorem dJ7_rangeCheck_23922_42 : decode cJ7_rangeCheck_23922 42 = .ok (.invokespecial 65, 3) := by decide +kernel
theorem dJ7_rangeCheck_23922_45 : decode cJ7_rangeCheck_23922 45 = .ok (.athrow, 1) := by decide +kernel
theorem dJ7_rangeCheck_23922_46 : decode cJ7_rangeCheck_23922 46 = .ok (.iload_n 1, 1) := by decide +kernel
theorem dJ7_rangeCheck_23922_47 : decode cJ7_rangeCheck_23922 47 = .ok (.ifCond .ge 12, 3) := by decide +kernel
theorem dJ7_rangeCheck_23922_50 : decode cJ7_rangeCheck_23922 50 = .ok (.new 68, 3) := by decide +kernel
theorem dJ7_rangeCheck_23922_53 : decode cJ7_rangeCheck_23922 53 = .ok (.dup, 1) := by decide +kernel
theorem dJ7_rangeCheck_23922_54 : decode cJ7_rangeCheck_23922 54 = .ok (.iload_n 1, 1) := by decide +kernel
theorem dJ7_rangeCheck_23922_55 : decode cJ7_rangeCheck_23922 55 = .ok (.invokespecial 70, 3) := by decide +kernel
theorem dJ7_rangeCheck_23922_58 : decode cJ7_rangeCheck_23922 58 = .ok (.athrow, 1) := by decide +kernel
theorem dJ7_rangeCheck_23922_59 : decode cJ7_rangeCheck_23922 59 = .ok (.iload_n 2, 1) := by decide +kernel
theorem dJ7_rangeCheck_23922_60 : decode cJ7_rangeCheck_23922 60 = .ok (.iload_n 0, 1) := by decide +kernel
theorem dJ7_rangeCheck_23922_61 : decode cJ7_rangeCheck_23922 61 = .ok (.if_icmp .le 12, 3) := by decide +kernel
theorem dJ7_rangeCheck_23922_64 : decode cJ7_rangeCheck_23922 64 = .ok (.new 68, 3) := by decide +kernel
theorem dJ7_rangeCheck_23922_67 : decode cJ7_rangeCheck_23922 67 = .ok (.dup, 1) := by decide +kernel
theorem dJ7_rangeCheck_23922_68 : decode cJ7_rangeCheck_23922 68 = .ok (.iload_n 2, 1) := by decide +kernel
theorem dJ7_rangeCheck_23922_69 : decode cJ7_rangeCheck_23922 69 = .ok (.invokespecial 70, 3) := by decide +kernel
theorem dJ7_rangeCheck_23922_72 : decode cJ7_rangeCheck_23922 72 = .ok (.athrow, 1) := by decide +kernel
theorem dJ7_rangeCheck_23922_73 : decode cJ7_rangeCheck_23922 73 = .ok (.return_, 1) := by decide +kernel
theorem dJ7_fill_53178_0 : decode cJ7_fill_53178 0 = .ok (.iconst 0, 1) := by decide +kernel
theorem dJ7_fill_53178_1 : decode cJ7_fill_53178 1 = .ok (.istore_n 2, 1) := by decide +kernel
theorem dJ7_fill_53178_2 : decode cJ7_fill_53178 2 = .ok (.aload_n 0, 1) := by decide +kernel
theorem dJ7_fill_53178_3 : decode cJ7_fill_53178 3 = .ok (.arraylength, 1) := by decide +kernel
theorem dJ7_fill_53178_4 : decode cJ7_fill_53178 4 = .ok (.istore_n 3, 1) := by decide +kernel
theorem dJ7_fill_53178_5 : decode cJ7_fill_53178 5 = .ok (.iload_n 2, 1) := by decide +kernel
theorem dJ7_fill_53178_6 : decode cJ7_fill_53178 6 = .ok (.iload_n 3, 1) := by decide +kernel
theorem dJ7_fill_53178_7 : decode cJ7_fill_53178 7 = .ok (.if_icmp .ge 13, 3) := by decide +kernel
theorem dJ7_fill_53178_10 : decode cJ7_fill_53178 10 = .ok (.aload_n 0, 1) := by decide +kernel
theorem dJ7_fill_53178_11 : decode cJ7_fill_53178 11 = .ok (.iload_n 2, 1) := by decide +kernel
theorem dJ7_fill_53178_12 : decode cJ7_fill_53178 12 = .ok (.iload_n 1, 1) := by decide +kernel
theorem dJ7_fill_53178_13 : decode cJ7_fill_53178 13 = .ok (.iastore, 1) := by decide +kernel
theorem dJ7_fill_53178_14 : decode cJ7_fill_53178 14 = .ok (.iinc 2 1, 3) := by decide +kernel
theorem dJ7_fill_53178_17 : decode cJ7_fill_53178 17 = .ok (.goto (-12), 3) := by decide +kernel
theorem dJ7_fill_53178_20 : decode cJ7_fill_53178 20 = .ok (.return_, 1) := by decide +kernel
set_option maxRecDepth 20000 in
theorem ggJ7_fill_fda19_J7_rangeCheck_23922 : GoodIn wsJ7_fill_fda19 wsJ7_rangeCheck_23922 := goodIn_r _ [4, 5, 6, 7, 8, 9, 10, 11, 12, 13, 14, 15, 16, 17, 18, 19, 20] (by decide +kernel) (by decide +kernel)
set_option maxRecDepth 20000 in
theorem gJ7_fill_fda19_J7_rangeCheck_23922 : GoodIn wsJ7_fill_fda19 (va_wsS RJ7 13 yJ7_rangeCheck_23922 wsJ7_rangeCheck_23922) := goodIn_app (goodIn_of _ (by decide +kernel)) ggJ7_fill_fda19_J7_rangeCheck_23922
theorem dJ7_fill_fda19_0 : decode cJ7_fill_fda19 0 = .ok (.aload_n 0, 1) := by decide +kernel
theorem dJ7_fill_fda19_1 : decode cJ7_fill_fda19 1 = .ok (.arraylength, 1) := by decide +kernel
theorem dJ7_fill_fda19_2 : decode cJ7_fill_fda19 2 = .ok (.iload_n 1, 1) := by decide +kernel
theorem dJ7_fill_fda19_3 : decode cJ7_fill_fda19 3 = .ok (.iload_n 2, 1) := by decide +kernel
theorem dJ7_fill_fda19_4 : decode cJ7_fill_fda19 4 = .ok (.invokestatic 13, 3) := by decide +kernel
theorem dJ7_fill_fda19_7 : decode cJ7_fill_fda19 7 = .ok (.iload_n 1, 1) := by decide +kernel
theorem dJ7_fill_fda19_8 : decode cJ7_fill_fda19 8 = .ok (.istore 4, 2) := by decide +kernel
theorem dJ7_fill_fda19_10 : decode cJ7_fill_fda19 10 = .ok (.iload 4, 2) := by decide +kernel
theorem dJ7_fill_fda19_12 : decode cJ7_fill_fda19 12 = .ok (.iload_n 2, 1) := by decide +kernel
theorem dJ7_fill_fda19_13 : decode cJ7_fill_fda19 13 = .ok (.if_icmp .ge 14, 3) := by decide +kernel
theorem dJ7_fill_fda19_16 : decode cJ7_fill_fda19 16 = .ok (.aload_n 0, 1) := by decide +kernel
theorem dJ7_fill_fda19_17 : decode cJ7_fill_fda19 17 = .ok (.iload 4, 2) := by decide +kernel
theorem dJ7_fill_fda19_19 : decode cJ7_fill_fda19 19 = .ok (.iload_n 3, 1) := by decide +kernel
theorem dJ7_fill_fda19_20 : decode cJ7_fill_fda19 20 = .ok (.iastore, 1) := by decide +kernel
theorem dJ7_fill_fda19_21 : decode cJ7_fill_fda19 21 = .ok (.iinc 4 1, 3) := by decide +kernel
theorem dJ7_fill_fda19_24 : decode cJ7_fill_fda19 24 = .ok (.goto (-14), 3) := by decide +kernel
theorem dJ7_fill_fda19_27 : decode cJ7_fill_fda19 27 = .ok (.return_, 1) := by decide +kernel
set_option maxRecDepth 20000 in
theorem ggJ7_copyOfRange_39247_J7_copyOfRangeByte_39247 : GoodIn wsJ7_copyOfRange_39247 wsJ7_copyOfRangeByte_39247 := goodIn_r _ [10, 11, 12, 13, 14, 15, 16, 17, 18, 19, 20, 21, 9, 22, 23, 24, 25, 26, 27, 28, 29] (by decide +kernel) (by decide +kernel)
set_option maxRecDepth 20000 in
theorem gJ7_copyOfRange_39247_J7_copyOfRangeByte_39247 : GoodIn wsJ7_copyOfRange_39247 (va_wsS RJ7 339 yJ7_copyOfRangeByte_39247 wsJ7_copyOfRangeByte_39247) := goodIn_app (goodIn_of _ (by decide +kernel)) ggJ7_copyOfRange_39247_J7_copyOfRangeByte_39247
set_option maxRecDepth 20000 in
theorem ggJ7_copyOfRangeByte_39247_J7_checkLength_df160 : GoodIn wsJ7_copyOfRangeByte_39247 wsJ7_checkLength_df160 := goodIn_r _ [13, 14, 15, 16, 17, 18, 19, 20] (by decide +kernel) (by decide +kernel)
set_option maxRecDepth 20000 in
theorem gJ7_copyOfRangeByte_39247_J7_checkLength_df160 : GoodIn wsJ7_copyOfRangeByte_39247 (va_wsS RJ7 343 yJ7_checkLength_df160 wsJ7_checkLength_df160) := goodIn_app (goodIn_of _ (by decide +kernel)) ggJ7_copyOfRangeByte_39247_J7_checkLength_df160
set_option maxRecDepth 20000 in
theorem ggJ8_newLength_cabcc_J8_hugeLength_7cf53 : GoodIn wsJ8_newLength_cabcc wsJ8_hugeLength_7cf53 := goodIn_r _ [9, 5] (by decide +kernel) (by decide +kernel)
set_option maxRecDepth 20000 in
theorem gJ8_newLength_cabcc_J8_hugeLength_7cf53 : GoodIn wsJ8_newLength_cabcc (va_wsS RJ8 201 yJ8_hugeLength_7cf53 wsJ8_hugeLength_7cf53) := goodIn_app (goodIn_of _ (by decide +kernel)) ggJ8_newLength_cabcc_J8_hugeLength_7cf53
theorem dL_cell_0 : decode cL_cell 0 = .ok (.iload_n 1, 1) := by decide +kernel
theorem dL_cell_1 : decode cL_cell 1 = .ok (.aload_n 0, 1) := by decide +kernel
theorem dL_cell_2 : decode cL_cell 2 = .ok (.arraylength, 1) := by decide +kernel
theorem dL_cell_3 : decode cL_cell 3 = .ok (.if_icmp .ge 9, 3) := by decide +kernel
theorem dL_cell_6 : decode cL_cell 6 = .ok (.aload_n 0, 1) := by decide +kernel
theorem dL_cell_7 : decode cL_cell 7 = .ok (.iload_n 1, 1) := by decide +kernel
theorem dL_cell_8 : decode cL_cell 8 = .ok (.iaload, 1) := by decide +kernel
theorem dL_cell_9 : decode cL_cell 9 = .ok (.goto 4, 3) := by decide +kernel
theorem dL_cell_12 : decode cL_cell 12 = .ok (.iconst 0, 1) := by decide +kernel
theorem dL_cell_13 : decode cL_cell 13 = .ok (.ireturn, 1) := by decide +kernel
set_option maxRecDepth 20000 in
theorem ggL_exchange_X6_exchange : GoodIn wsL_exchange wsX6_exchange := goodIn_ca (goodIn_r _ [6, 7, 8, 9, 10, 11, 5, 12, 13, 14, 15, 16, 17, 18, 19, 20, 21, 22, 23, 24, 25, 26, 27, 28, 29, 30, 31, 32, 33, 34, 35, 36, 37, 38, 39, 40, 41, 42, 43, 44, 45, 46, 47, 48, 49, 50, 51, 52, 53, 54, 55, 56, 57, 58, 59, 60, 61, 62, 63, 64, 65, 66, 67, 68, 69, 70, 71, 72, 73, 74] (by decide +kernel) (by decide +kernel)) (goodIn_sub (fun _ h => List.mem_cons_of_mem _ (List.mem_append_right _ h)) (by decide +kernel))
set_option maxRecDepth 20000 in
theorem gL_exchange_X6_exchange : GoodIn wsL_exchange (wsV RL 7 RX6 yX6_exchange wsX6_exchange) := goodIn_app (goodIn_of _ (by decide +kernel)) ggL_exchange_X6_exchange
theorem dL_exchange_0 : decode cL_exchange 0 = .ok (.aload 4, 2) := by decide +kernel
theorem dL_exchange_2 : decode cL_exchange 2 = .ok (.iconst 0, 1) := by decide +kernel
theorem dL_exchange_3 : decode cL_exchange 3 = .ok (.aload_n 0, 1) := by decide +kernel
theorem dL_exchange_4 : decode cL_exchange 4 = .ok (.iload_n 1, 1) := by decide +kernel
theorem dL_exchange_5 : decode cL_exchange 5 = .ok (.iload_n 2, 1) := by decide +kernel
theorem dL_exchange_6 : decode cL_exchange 6 = .ok (.iload_n 3, 1) := by decide +kernel
theorem dL_exchange_7 : decode cL_exchange 7 = .ok (.invokevirtual 7, 3) := by decide +kernel
theorem dL_exchange_10 : decode cL_exchange 10 = .ok (.ifCond .eq 7, 3) := by decide +kernel
theorem dL_exchange_13 : decode cL_exchange 13 = .ok (.lconst 1, 1) := by decide +kernel
theorem dL_exchange_14 : decode cL_exchange 14 = .ok (.goto 4, 3) := by decide +kernel
theorem dL_exchange_17 : decode cL_exchange 17 = .ok (.lconst 0, 1) := by decide +kernel
theorem dL_exchange_18 : decode cL_exchange 18 = .ok (.lastore, 1) := by decide +kernel
theorem dL_exchange_19 : decode cL_exchange 19 = .ok (.goto 7, 3) := by decide +kernel
theorem dL_exchange_22 : decode cL_exchange 22 = .ok (.astore 5, 2) := by decide +kernel
theorem dL_exchange_24 : decode cL_exchange 24 = .ok (.iconst 1, 1) := by decide +kernel
theorem dL_exchange_25 : decode cL_exchange 25 = .ok (.ireturn, 1) := by decide +kernel
theorem dL_exchange_26 : decode cL_exchange 26 = .ok (.iconst 0, 1) := by decide +kernel
theorem dL_exchange_27 : decode cL_exchange 27 = .ok (.ireturn, 1) := by decide +kernel
set_option maxRecDepth 20000 in
theorem ggL_adds_X6_adds : GoodIn wsL_adds wsX6_adds := goodIn_ca (goodIn_ca (goodIn_r _ [7, 8, 9, 10, 11, 12, 13, 14, 15, 6, 16, 17, 18, 19, 20, 21, 22, 23, 24, 25, 26, 27, 28, 29, 30, 31, 32, 33, 34, 35, 36, 37, 38, 39, 40, 41, 42, 43, 44, 45, 46, 47, 48, 49, 50, 51, 52, 53, 54, 55, 56, 57, 58, 59, 60, 61, 62, 63, 64, 65, 66, 67, 68, 69, 70, 71, 72, 73, 74, 75] (by decide +kernel) (by decide +kernel)) (goodIn_sub (fun _ h => List.mem_cons_of_mem _ (List.mem_append_right _ h)) (by decide +kernel))) (goodIn_sub (fun _ h => List.mem_cons_of_mem _ (List.mem_append_left _ (List.mem_append_right _ h))) (by decide +kernel))
set_option maxRecDepth 20000 in
theorem gL_adds_X6_adds : GoodIn wsL_adds (wsV RL 15 RX6 yX6_adds wsX6_adds) := goodIn_app (goodIn_of _ (by decide +kernel)) ggL_adds_X6_adds
theorem dL_adds_0 : decode cL_adds 0 = .ok (.aload 4, 2) := by decide +kernel
theorem dL_adds_2 : decode cL_adds 2 = .ok (.iconst 0, 1) := by decide +kernel
theorem dL_adds_3 : decode cL_adds 3 = .ok (.aload_n 0, 1) := by decide +kernel
theorem dL_adds_4 : decode cL_adds 4 = .ok (.iload_n 1, 1) := by decide +kernel
theorem dL_adds_5 : decode cL_adds 5 = .ok (.iload_n 2, 1) := by decide +kernel
theorem dL_adds_6 : decode cL_adds 6 = .ok (.iload_n 3, 1) := by decide +kernel
theorem dL_adds_7 : decode cL_adds 7 = .ok (.invokevirtual 15, 3) := by decide +kernel
theorem dL_adds_10 : decode cL_adds 10 = .ok (.ifCond .eq 7, 3) := by decide +kernel
theorem dL_adds_13 : decode cL_adds 13 = .ok (.lconst 1, 1) := by decide +kernel
theorem dL_adds_14 : decode cL_adds 14 = .ok (.goto 4, 3) := by decide +kernel
theorem dL_adds_17 : decode cL_adds 17 = .ok (.lconst 0, 1) := by decide +kernel
theorem dL_adds_18 : decode cL_adds 18 = .ok (.lastore, 1) := by decide +kernel
theorem dL_adds_19 : decode cL_adds 19 = .ok (.goto 11, 3) := by decide +kernel
theorem dL_adds_22 : decode cL_adds 22 = .ok (.astore 5, 2) := by decide +kernel
theorem dL_adds_24 : decode cL_adds 24 = .ok (.iconst 1, 1) := by decide +kernel
theorem dL_adds_25 : decode cL_adds 25 = .ok (.ireturn, 1) := by decide +kernel
theorem dL_adds_26 : decode cL_adds 26 = .ok (.astore 5, 2) := by decide +kernel
theorem dL_adds_28 : decode cL_adds 28 = .ok (.iconst 2, 1) := by decide +kernel
theorem dL_adds_29 : decode cL_adds 29 = .ok (.ireturn, 1) := by decide +kernel
theorem dL_adds_30 : decode cL_adds 30 = .ok (.iconst 0, 1) := by decide +kernel
theorem dL_adds_31 : decode cL_adds 31 = .ok (.ireturn, 1) := by decide +kernel
set_option maxRecDepth 20000 in
theorem ggL_order_X6_order : GoodIn wsL_order wsX6_order := goodIn_ca (goodIn_r _ [6, 7, 8, 9, 10, 5, 11, 12, 13, 14, 15, 16, 17, 18, 19, 20, 21, 22, 23, 24, 25, 26, 27, 28, 29, 30, 31, 32, 33, 34, 35, 36, 37, 38, 39, 40, 41, 42, 43, 44, 45, 46, 47, 48, 49, 50, 51, 52, 53, 54, 55, 56, 57, 58, 59, 60, 61, 62, 63, 64, 65, 66] (by decide +kernel) (by decide +kernel)) (goodIn_sub (fun _ h => List.mem_cons_of_mem _ (List.mem_append_right _ h)) (by decide +kernel))
set_option maxRecDepth 20000 in
theorem gL_order_X6_order : GoodIn wsL_order (wsV RL 20 RX6 yX6_order wsX6_order) := goodIn_app (goodIn_of _ (by decide +kernel)) ggL_order_X6_order
theorem dL_order_0 : decode cL_order 0 = .ok (.aload_n 2, 1) := by decide +kernel
theorem dL_order_1 : decode cL_order 1 = .ok (.iconst 0, 1) := by decide +kernel
theorem dL_order_2 : decode cL_order 2 = .ok (.aload_n 0, 1) := by decide +kernel
theorem dL_order_3 : decode cL_order 3 = .ok (.iload_n 1, 1) := by decide +kernel
theorem dL_order_4 : decode cL_order 4 = .ok (.invokevirtual 20, 3) := by decide +kernel
theorem dL_order_7 : decode cL_order 7 = .ok (.i2l, 1) := by decide +kernel
theorem dL_order_8 : decode cL_order 8 = .ok (.lastore, 1) := by decide +kernel
theorem dL_order_9 : decode cL_order 9 = .ok (.goto 6, 3) := by decide +kernel
theorem dL_order_12 : decode cL_order 12 = .ok (.astore_n 3, 1) := by decide +kernel
theorem dL_order_13 : decode cL_order 13 = .ok (.iconst 1, 1) := by decide +kernel
theorem dL_order_14 : decode cL_order 14 = .ok (.ireturn, 1) := by decide +kernel
theorem dL_order_15 : decode cL_order 15 = .ok (.iconst 0, 1) := by decide +kernel
theorem dL_order_16 : decode cL_order 16 = .ok (.ireturn, 1) := by decide +kernel
set_option maxRecDepth 20000 in
theorem ggL_choose_X6_choose : GoodIn wsL_choose wsX6_choose := goodIn_ca (goodIn_r _ [6, 7, 8, 9, 10, 11, 12, 13, 5, 14, 15, 16, 17, 18, 19, 20, 21, 22, 23, 24, 25, 26, 27, 28, 29, 30, 31, 32, 33, 34, 35, 36, 37, 38, 39, 40, 41, 42, 43, 44, 45, 46, 47, 48, 49, 50, 51, 52, 53, 54, 55, 56, 57, 58, 59, 60, 61, 62, 63, 64, 65, 66, 67, 68, 69, 70, 71, 72, 73, 74, 75, 76, 77, 78, 79, 80, 81, 82, 83, 84, 85, 86, 87, 88, 89, 90, 91, 92, 93, 94, 95, 96, 97, 98, 99, 100, 101, 102, 103] (by decide +kernel) (by decide +kernel)) (goodIn_sub (fun _ h => List.mem_cons_of_mem _ (List.mem_append_right _ h)) (by decide +kernel))
set_option maxRecDepth 20000 in
theorem gL_choose_X6_choose : GoodIn wsL_choose (wsV RL 24 RX6 yX6_choose wsX6_choose) := goodIn_app (goodIn_of _ (by decide +kernel)) ggL_choose_X6_choose
theorem dL_choose_0 : decode cL_choose 0 = .ok (.aload_n 3, 1) := by decide +kernel
theorem dL_choose_1 : decode cL_choose 1 = .ok (.iconst 0, 1) := by decide +kernel
theorem dL_choose_2 : decode cL_choose 2 = .ok (.aload_n 0, 1) := by decide +kernel
theorem dL_choose_3 : decode cL_choose 3 = .ok (.iload_n 1, 1) := by decide +kernel
theorem dL_choose_4 : decode cL_choose 4 = .ok (.iload_n 2, 1) := by decide +kernel
theorem dL_choose_5 : decode cL_choose 5 = .ok (.invokevirtual 24, 3) := by decide +kernel
theorem dL_choose_8 : decode cL_choose 8 = .ok (.ifCond .eq 7, 3) := by decide +kernel
theorem dL_choose_11 : decode cL_choose 11 = .ok (.lconst 1, 1) := by decide +kernel
theorem dL_choose_12 : decode cL_choose 12 = .ok (.goto 4, 3) := by decide +kernel
theorem dL_choose_15 : decode cL_choose 15 = .ok (.lconst 0, 1) := by decide +kernel
theorem dL_choose_16 : decode cL_choose 16 = .ok (.lastore, 1) := by decide +kernel
theorem dL_choose_17 : decode cL_choose 17 = .ok (.goto 7, 3) := by decide +kernel
theorem dL_choose_20 : decode cL_choose 20 = .ok (.astore 4, 2) := by decide +kernel
theorem dL_choose_22 : decode cL_choose 22 = .ok (.iconst 1, 1) := by decide +kernel
theorem dL_choose_23 : decode cL_choose 23 = .ok (.ireturn, 1) := by decide +kernel
theorem dL_choose_24 : decode cL_choose 24 = .ok (.iconst 0, 1) := by decide +kernel
theorem dL_choose_25 : decode cL_choose 25 = .ok (.ireturn, 1) := by decide +kernel
set_option maxRecDepth 20000 in
theorem ggL_set_X6_set : GoodIn wsL_set wsX6_set := goodIn_ca (goodIn_r _ [6, 7, 8, 9, 10, 11, 12, 13, 14, 15, 16, 17, 5, 18, 19, 20, 21, 22, 23, 24, 25, 26, 27, 28, 29, 30, 31, 32, 33, 34, 35, 36, 37, 38, 39, 40, 41, 42, 43, 44, 45, 46, 47, 48, 49, 50, 51, 52, 53, 54, 55, 56, 57, 58, 59, 60, 61, 62, 63, 64, 65, 66, 67, 68, 69, 70, 71, 72, 73] (by decide +kernel) (by decide +kernel)) (goodIn_sub (fun _ h => List.mem_cons_of_mem _ (List.mem_append_right _ h)) (by decide +kernel))
set_option maxRecDepth 20000 in
theorem gL_set_X6_set : GoodIn wsL_set (wsV RL 28 RX6 yX6_set wsX6_set) := goodIn_app (goodIn_of _ (by decide +kernel)) ggL_set_X6_set
theorem dL_set_0 : decode cL_set 0 = .ok (.aload_n 0, 1) := by decide +kernel
theorem dL_set_1 : decode cL_set 1 = .ok (.iload_n 1, 1) := by decide +kernel
theorem dL_set_2 : decode cL_set 2 = .ok (.invokevirtual 28, 3) := by decide +kernel
theorem dL_set_5 : decode cL_set 5 = .ok (.goto 6, 3) := by decide +kernel
theorem dL_set_8 : decode cL_set 8 = .ok (.astore_n 2, 1) := by decide +kernel
theorem dL_set_9 : decode cL_set 9 = .ok (.iconst 1, 1) := by decide +kernel
theorem dL_set_10 : decode cL_set 10 = .ok (.ireturn, 1) := by decide +kernel
theorem dL_set_11 : decode cL_set 11 = .ok (.iconst 0, 1) := by decide +kernel
theorem dL_set_12 : decode cL_set 12 = .ok (.ireturn, 1) := by decide +kernel
set_option maxRecDepth 20000 in
theorem ggL_place_X6_place : GoodIn wsL_place wsX6_place := goodIn_ca (goodIn_r _ [6, 7, 8, 9, 10, 11, 5, 12, 13, 14, 15, 16, 17, 18, 19, 20, 21, 22, 23, 24, 25, 26, 27, 28, 29, 30, 31, 32, 33, 34, 35, 36, 37, 38, 39, 40, 41, 42, 43, 44, 45, 46, 47, 48, 49, 50, 51, 52] (by decide +kernel) (by decide +kernel)) (goodIn_sub (fun _ h => List.mem_cons_of_mem _ (List.mem_append_right _ h)) (by decide +kernel))
set_option maxRecDepth 20000 in
theorem gL_place_X6_place : GoodIn wsL_place (wsV RL 32 RX6 yX6_place wsX6_place) := goodIn_app (goodIn_of _ (by decide +kernel)) ggL_place_X6_place
theorem dL_place_0 : decode cL_place 0 = .ok (.aload_n 2, 1) := by decide +kernel
theorem dL_place_1 : decode cL_place 1 = .ok (.iconst 0, 1) := by decide +kernel
theorem dL_place_2 : decode cL_place 2 = .ok (.aload_n 0, 1) := by decide +kernel
theorem dL_place_3 : decode cL_place 3 = .ok (.iload_n 1, 1) := by decide +kernel
theorem dL_place_4 : decode cL_place 4 = .ok (.invokevirtual 32, 3) := by decide +kernel
theorem dL_place_7 : decode cL_place 7 = .ok (.i2l, 1) := by decide +kernel
theorem dL_place_8 : decode cL_place 8 = .ok (.lastore, 1) := by decide +kernel
theorem dL_place_9 : decode cL_place 9 = .ok (.goto 6, 3) := by decide +kernel
theorem dL_place_12 : decode cL_place 12 = .ok (.astore_n 3, 1) := by decide +kernel
theorem dL_place_13 : decode cL_place 13 = .ok (.iconst 1, 1) := by decide +kernel
theorem dL_place_14 : decode cL_place 14 = .ok (.ireturn, 1) := by decide +kernel
theorem dL_place_15 : decode cL_place 15 = .ok (.iconst 0, 1) := by decide +kernel
theorem dL_place_16 : decode cL_place 16 = .ok (.ireturn, 1) := by decide +kernel
set_option maxRecDepth 20000 in
theorem ggL_twist_X6_twist : GoodIn wsL_twist wsX6_twist := goodIn_ca (goodIn_r _ [6, 7, 8, 9, 10, 11, 5, 12, 13, 14, 15, 16, 17, 18, 19, 20, 21, 22, 23, 24, 25, 26, 27, 28, 29, 30, 31, 32, 33, 34, 35, 36, 37, 38, 39, 40, 41, 42, 43, 44, 45, 46, 47, 48, 49, 50, 51, 52] (by decide +kernel) (by decide +kernel)) (goodIn_sub (fun _ h => List.mem_cons_of_mem _ (List.mem_append_right _ h)) (by decide +kernel))
set_option maxRecDepth 20000 in
theorem gL_twist_X6_twist : GoodIn wsL_twist (wsV RL 35 RX6 yX6_twist wsX6_twist) := goodIn_app (goodIn_of _ (by decide +kernel)) ggL_twist_X6_twist
theorem dL_twist_0 : decode cL_twist 0 = .ok (.aload_n 2, 1) := by decide +kernel
theorem dL_twist_1 : decode cL_twist 1 = .ok (.iconst 0, 1) := by decide +kernel
theorem dL_twist_2 : decode cL_twist 2 = .ok (.aload_n 0, 1) := by decide +kernel
theorem dL_twist_3 : decode cL_twist 3 = .ok (.iload_n 1, 1) := by decide +kernel
theorem dL_twist_4 : decode cL_twist 4 = .ok (.invokevirtual 35, 3) := by decide +kernel
theorem dL_twist_7 : decode cL_twist 7 = .ok (.i2l, 1) := by decide +kernel
theorem dL_twist_8 : decode cL_twist 8 = .ok (.lastore, 1) := by decide +kernel
theorem dL_twist_9 : decode cL_twist 9 = .ok (.goto 6, 3) := by decide +kernel
theorem dL_twist_12 : decode cL_twist 12 = .ok (.astore_n 3, 1) := by decide +kernel
theorem dL_twist_13 : decode cL_twist 13 = .ok (.iconst 1, 1) := by decide +kernel
theorem dL_twist_14 : decode cL_twist 14 = .ok (.ireturn, 1) := by decide +kernel
theorem dL_twist_15 : decode cL_twist 15 = .ok (.iconst 0, 1) := by decide +kernel
theorem dL_twist_16 : decode cL_twist 16 = .ok (.ireturn, 1) := by decide +kernel
set_option maxRecDepth 20000 in
theorem ggL_apply_X6_apply : GoodIn wsL_apply wsX6_apply := goodIn_ca (goodIn_r _ [6, 7, 8, 9, 10, 11, 5, 12, 13, 14, 15, 16, 17, 18, 19, 20, 21, 22, 23, 24, 25, 26, 27, 28, 29, 30, 31, 32, 33, 34, 35, 36, 37, 38, 39, 40, 41, 42, 43, 44, 45, 46, 47, 48] (by decide +kernel) (by decide +kernel)) (goodIn_sub (fun _ h => List.mem_cons_of_mem _ (List.mem_append_right _ h)) (by decide +kernel))
set_option maxRecDepth 20000 in
theorem gL_apply_X6_apply : GoodIn wsL_apply (wsV RL 38 RX6 yX6_apply wsX6_apply) := goodIn_app (goodIn_of _ (by decide +kernel)) ggL_apply_X6_apply
theorem dL_apply_0 : decode cL_apply 0 = .ok (.aload_n 0, 1) := by decide +kernel
theorem dL_apply_1 : decode cL_apply 1 = .ok (.iload_n 1, 1) := by decide +kernel
theorem dL_apply_2 : decode cL_apply 2 = .ok (.invokevirtual 38, 3) := by decide +kernel
theorem dL_apply_5 : decode cL_apply 5 = .ok (.goto 6, 3) := by decide +kernel
theorem dL_apply_8 : decode cL_apply 8 = .ok (.astore_n 2, 1) := by decide +kernel
theorem dL_apply_9 : decode cL_apply 9 = .ok (.iconst 1, 1) := by decide +kernel
theorem dL_apply_10 : decode cL_apply 10 = .ok (.ireturn, 1) := by decide +kernel
theorem dL_apply_11 : decode cL_apply 11 = .ok (.iconst 0, 1) := by decide +kernel
theorem dL_apply_12 : decode cL_apply 12 = .ok (.ireturn, 1) := by decide +kernel
set_option maxRecDepth 20000 in
theorem ggL_value_X6_value : GoodIn wsL_value wsX6_value := goodIn_ca (goodIn_r _ [6, 7, 8, 9, 10, 11, 12, 13, 14, 15, 16, 17, 5, 18, 19, 20, 21, 22, 23, 24, 25, 26, 27, 28, 29, 30, 31, 32, 33, 34, 35, 36, 37, 38, 39, 40, 41, 42, 43, 44, 45, 46, 47, 48, 49, 50, 51, 52, 53, 54, 55, 56, 57, 58, 59, 60, 61, 62, 63] (by decide +kernel) (by decide +kernel)) (goodIn_sub (fun _ h => List.mem_cons_of_mem _ (List.mem_append_right _ h)) (by decide +kernel))
set_option maxRecDepth 20000 in
theorem gL_value_X6_value : GoodIn wsL_value (wsV RL 41 RX6 yX6_value wsX6_value) := goodIn_app (goodIn_of _ (by decide +kernel)) ggL_value_X6_value
theorem dL_value_0 : decode cL_value 0 = .ok (.aload_n 2, 1) := by decide +kernel
theorem dL_value_1 : decode cL_value 1 = .ok (.iconst 0, 1) := by decide +kernel
theorem dL_value_2 : decode cL_value 2 = .ok (.aload_n 0, 1) := by decide +kernel
theorem dL_value_3 : decode cL_value 3 = .ok (.iload_n 1, 1) := by decide +kernel
theorem dL_value_4 : decode cL_value 4 = .ok (.invokevirtual 41, 3) := by decide +kernel
theorem dL_value_7 : decode cL_value 7 = .ok (.i2l, 1) := by decide +kernel
theorem dL_value_8 : decode cL_value 8 = .ok (.lastore, 1) := by decide +kernel
theorem dL_value_9 : decode cL_value 9 = .ok (.goto 6, 3) := by decide +kernel
theorem dL_value_12 : decode cL_value 12 = .ok (.astore_n 3, 1) := by decide +kernel
theorem dL_value_13 : decode cL_value 13 = .ok (.iconst 1, 1) := by decide +kernel
theorem dL_value_14 : decode cL_value 14 = .ok (.ireturn, 1) := by decide +kernel
theorem dL_value_15 : decode cL_value 15 = .ok (.iconst 0, 1) := by decide +kernel
theorem dL_value_16 : decode cL_value 16 = .ok (.ireturn, 1) := by decide +kernel
set_option maxRecDepth 20000 in
theorem ggL_packed_X6_packed : GoodIn wsL_packed wsX6_packed := goodIn_ca (goodIn_ca (goodIn_r _ [6, 7, 8, 9, 10, 11, 12, 13, 14, 15, 16, 17, 18, 19, 20, 21, 22, 23, 24, 25, 26, 27, 28, 29, 30, 31, 32, 33, 34, 35, 36, 37, 38, 39, 40, 41, 42, 43, 44, 45, 46, 47, 48, 49] (by decide +kernel) (by decide +kernel)) (goodIn_sub (fun _ h => List.mem_cons_of_mem _ (List.mem_append_right _ h)) (by decide +kernel))) (goodIn_sub (fun _ h => List.mem_cons_of_mem _ (List.mem_append_left _ (List.mem_append_right _ h))) (by decide +kernel))
set_option maxRecDepth 20000 in
theorem gL_packed_X6_packed : GoodIn wsL_packed (wsV RL 44 RX6 yX6_packed wsX6_packed) := goodIn_app (goodIn_of _ (by decide +kernel)) ggL_packed_X6_packed
theorem dL_packed_0 : decode cL_packed 0 = .ok (.aload_n 3, 1) := by decide +kernel
theorem dL_packed_1 : decode cL_packed 1 = .ok (.iconst 0, 1) := by decide +kernel
theorem dL_packed_2 : decode cL_packed 2 = .ok (.aload_n 0, 1) := by decide +kernel
theorem dL_packed_3 : decode cL_packed 3 = .ok (.iload_n 1, 1) := by decide +kernel
theorem dL_packed_4 : decode cL_packed 4 = .ok (.iload_n 2, 1) := by decide +kernel
theorem dL_packed_5 : decode cL_packed 5 = .ok (.invokevirtual 44, 3) := by decide +kernel
theorem dL_packed_8 : decode cL_packed 8 = .ok (.lastore, 1) := by decide +kernel
theorem dL_packed_9 : decode cL_packed 9 = .ok (.goto 7, 3) := by decide +kernel
theorem dL_packed_12 : decode cL_packed 12 = .ok (.astore 4, 2) := by decide +kernel
theorem dL_packed_14 : decode cL_packed 14 = .ok (.iconst 1, 1) := by decide +kernel
theorem dL_packed_15 : decode cL_packed 15 = .ok (.ireturn, 1) := by decide +kernel
theorem dL_packed_16 : decode cL_packed 16 = .ok (.iconst 0, 1) := by decide +kernel
theorem dL_packed_17 : decode cL_packed 17 = .ok (.ireturn, 1) := by decide +kernel
set_option maxRecDepth 20000 in
theorem ggL_turn_X6_turn : GoodIn wsL_turn wsX6_turn := goodIn_ca (goodIn_r _ [6, 7, 8, 9, 10, 11, 12, 5, 13, 14, 15, 16, 17, 18, 19, 20, 21, 22, 23, 24, 25, 26, 27, 28, 29, 30, 31, 32, 33, 34, 35, 36, 37, 38, 39, 40, 41, 42, 43, 44, 45, 46, 47, 48, 49, 50, 51, 52, 53, 54] (by decide +kernel) (by decide +kernel)) (goodIn_sub (fun _ h => List.mem_cons_of_mem _ (List.mem_append_right _ h)) (by decide +kernel))
set_option maxRecDepth 20000 in
theorem gL_turn_X6_turn : GoodIn wsL_turn (wsV RL 48 RX6 yX6_turn wsX6_turn) := goodIn_app (goodIn_of _ (by decide +kernel)) ggL_turn_X6_turn
theorem dL_turn_0 : decode cL_turn 0 = .ok (.aload 4, 2) := by decide +kernel
theorem dL_turn_2 : decode cL_turn 2 = .ok (.iconst 0, 1) := by decide +kernel
theorem dL_turn_3 : decode cL_turn 3 = .ok (.aload_n 0, 1) := by decide +kernel
theorem dL_turn_4 : decode cL_turn 4 = .ok (.iload_n 1, 1) := by decide +kernel
theorem dL_turn_5 : decode cL_turn 5 = .ok (.iload_n 2, 1) := by decide +kernel
theorem dL_turn_6 : decode cL_turn 6 = .ok (.iload_n 3, 1) := by decide +kernel
theorem dL_turn_7 : decode cL_turn 7 = .ok (.invokevirtual 48, 3) := by decide +kernel
theorem dL_turn_10 : decode cL_turn 10 = .ok (.ifCond .eq 7, 3) := by decide +kernel
theorem dL_turn_13 : decode cL_turn 13 = .ok (.lconst 1, 1) := by decide +kernel
theorem dL_turn_14 : decode cL_turn 14 = .ok (.goto 4, 3) := by decide +kernel
theorem dL_turn_17 : decode cL_turn 17 = .ok (.lconst 0, 1) := by decide +kernel
theorem dL_turn_18 : decode cL_turn 18 = .ok (.lastore, 1) := by decide +kernel
theorem dL_turn_19 : decode cL_turn 19 = .ok (.goto 7, 3) := by decide +kernel
theorem dL_turn_22 : decode cL_turn 22 = .ok (.astore 5, 2) := by decide +kernel
theorem dL_turn_24 : decode cL_turn 24 = .ok (.iconst 1, 1) := by decide +kernel
theorem dL_turn_25 : decode cL_turn 25 = .ok (.ireturn, 1) := by decide +kernel
theorem dL_turn_26 : decode cL_turn 26 = .ok (.iconst 0, 1) := by decide +kernel
theorem dL_turn_27 : decode cL_turn 27 = .ok (.ireturn, 1) := by decide +kernel
set_option maxRecDepth 20000 in
theorem ggL_good_X6_good : GoodIn wsL_good wsX6_good := goodIn_ca (goodIn_r _ [6, 7, 8, 9, 10, 5, 11, 12, 13, 14, 15, 16, 17, 18, 19, 20, 21, 22, 23, 24, 25, 26, 27, 28, 29, 30, 31, 32, 33, 34, 35, 36, 37, 38, 39, 40, 41, 42, 43, 44, 45, 46, 47, 48, 49, 50, 51, 52, 53, 54, 55, 56, 57, 58, 59, 60, 61, 62, 63, 64, 65, 66, 67, 68, 69, 70, 71] (by decide +kernel) (by decide +kernel)) (goodIn_sub (fun _ h => List.mem_cons_of_mem _ (List.mem_append_right _ h)) (by decide +kernel))
set_option maxRecDepth 20000 in
theorem gL_good_X6_good : GoodIn wsL_good (wsV RL 51 RX6 yX6_good wsX6_good) := goodIn_app (goodIn_of _ (by decide +kernel)) ggL_good_X6_good
theorem dL_good_0 : decode cL_good 0 = .ok (.aload_n 2, 1) := by decide +kernel
theorem dL_good_1 : decode cL_good 1 = .ok (.iconst 0, 1) := by decide +kernel
theorem dL_good_2 : decode cL_good 2 = .ok (.aload_n 0, 1) := by decide +kernel
theorem dL_good_3 : decode cL_good 3 = .ok (.iload_n 1, 1) := by decide +kernel
theorem dL_good_4 : decode cL_good 4 = .ok (.invokevirtual 51, 3) := by decide +kernel
theorem dL_good_7 : decode cL_good 7 = .ok (.ifCond .eq 7, 3) := by decide +kernel
theorem dL_good_10 : decode cL_good 10 = .ok (.lconst 1, 1) := by decide +kernel
theorem dL_good_11 : decode cL_good 11 = .ok (.goto 4, 3) := by decide +kernel
theorem dL_good_14 : decode cL_good 14 = .ok (.lconst 0, 1) := by decide +kernel
theorem dL_good_15 : decode cL_good 15 = .ok (.lastore, 1) := by decide +kernel
theorem dL_good_16 : decode cL_good 16 = .ok (.goto 6, 3) := by decide +kernel
theorem dL_good_19 : decode cL_good 19 = .ok (.astore_n 3, 1) := by decide +kernel
theorem dL_good_20 : decode cL_good 20 = .ok (.iconst 1, 1) := by decide +kernel
theorem dL_good_21 : decode cL_good 21 = .ok (.ireturn, 1) := by decide +kernel
theorem dL_good_22 : decode cL_good 22 = .ok (.iconst 0, 1) := by decide +kernel
theorem dL_good_23 : decode cL_good 23 = .ok (.ireturn, 1) := by decide +kernel
set_option maxRecDepth 20000 in
theorem ggL_least_X6_least : GoodIn wsL_least wsX6_least := goodIn_ca (goodIn_r _ [6, 7, 8, 9, 10, 11, 12, 13, 14, 15, 16, 17, 5, 18, 19, 20, 21, 22, 23, 24, 25, 26, 27, 28, 29, 30, 31, 32, 33, 34, 35, 36, 37, 38, 39, 40, 41, 42, 43, 44, 45, 46, 47, 48, 49, 50, 51, 52, 53, 54, 55, 56, 57, 58, 59, 60, 61, 62, 63, 64, 65, 66, 67, 68, 69, 70, 71, 72, 73, 74, 75, 76, 77, 78, 79, 80, 81, 82, 83, 84, 85, 86, 87, 88, 89, 90, 91, 92, 93, 94, 95, 96, 97, 98, 99, 100, 101, 102, 103, 104, 105, 106, 107, 108, 109, 110, 111, 112, 113, 114, 115, 116, 117, 118, 119, 120, 121, 122, 123, 124, 125, 126, 127, 128, 129, 130, 131, 132, 133, 134, 135, 136, 137, 138, 139, 140, 141, 142, 143, 144, 145, 146, 147, 148, 149, 150, 151, 152, 153, 154, 155, 156, 157, 158, 159, 160, 161, 162, 163, 164, 165, 166, 167, 168, 169, 170, 171, 172, 173, 174, 175] (by decide +kernel) (by decide +kernel)) (goodIn_sub (fun _ h => List.mem_cons_of_mem _ (List.mem_append_right _ h)) (by decide +kernel))
set_option maxRecDepth 20000 in
theorem gL_least_X6_least : GoodIn wsL_least (wsV RL 55 RX6 yX6_least wsX6_least) := goodIn_app (goodIn_of _ (by decide +kernel)) ggL_least_X6_least
theorem dL_least_0 : decode cL_least 0 = .ok (.aload_n 2, 1) := by decide +kernel
theorem dL_least_1 : decode cL_least 1 = .ok (.iconst 0, 1) := by decide +kernel
theorem dL_least_2 : decode cL_least 2 = .ok (.aload_n 0, 1) := by decide +kernel
theorem dL_least_3 : decode cL_least 3 = .ok (.iload_n 1, 1) := by decide +kernel
theorem dL_least_4 : decode cL_least 4 = .ok (.invokevirtual 55, 3) := by decide +kernel
theorem dL_least_7 : decode cL_least 7 = .ok (.i2l, 1) := by decide +kernel
theorem dL_least_8 : decode cL_least 8 = .ok (.lastore, 1) := by decide +kernel
theorem dL_least_9 : decode cL_least 9 = .ok (.goto 6, 3) := by decide +kernel
theorem dL_least_12 : decode cL_least 12 = .ok (.astore_n 3, 1) := by decide +kernel
theorem dL_least_13 : decode cL_least 13 = .ok (.iconst 1, 1) := by decide +kernel
theorem dL_least_14 : decode cL_least 14 = .ok (.ireturn, 1) := by decide +kernel
theorem dL_least_15 : decode cL_least 15 = .ok (.iconst 0, 1) := by decide +kernel
theorem dL_least_16 : decode cL_least 16 = .ok (.ireturn, 1) := by decide +kernel
set_option maxRecDepth 20000 in
theorem ggL_law_L_cell : GoodIn wsL_law wsL_cell := goodIn_ca (goodIn_r _ [10] (by decide +kernel) (by decide +kernel)) (goodIn_sub (fun _ h => List.mem_append_left _ (List.mem_append_right _ h)) (by decide +kernel))
set_option maxRecDepth 20000 in
theorem gL_law_L_cell : GoodIn wsL_law (va_wsS RL 58 yL_cell wsL_cell) := goodIn_app (goodIn_of _ (by decide +kernel)) ggL_law_L_cell
set_option maxRecDepth 20000 in
theorem ggL_law_X6_init : GoodIn wsL_law wsX6_init := goodIn_ca (goodIn_r _ [13, 14, 15, 16, 17, 18, 19, 20, 21, 22, 23, 24, 25, 26, 27, 28, 29, 30, 31, 32, 33, 34, 35, 36, 37, 38, 39, 40, 41, 42, 43, 44, 45, 46, 47, 48, 49, 50, 51, 52, 53, 54, 55, 56, 57, 58, 59, 60, 61, 62, 63, 64, 2, 65, 66, 67, 68, 69, 70, 71, 72, 73, 74, 75, 76, 77, 78, 79, 80, 81, 82, 83, 84, 85, 86, 87, 88, 89, 90, 91, 92, 93, 94, 95, 96, 97, 98, 99, 100, 101, 102, 103, 104, 105, 106, 107, 108, 680, 681, 682, 683, 684, 685, 686, 687, 688, 689, 690, 691, 692, 693, 694, 718, 719, 720, 721, 722, 723, 724, 725, 726, 727, 728, 729, 730, 731, 732, 733, 734, 735, 736, 737, 738, 739, 740, 741, 742, 743, 744, 745, 746, 747, 748, 749, 750] (by decide +kernel) (by decide +kernel)) (goodIn_sub (fun _ h => List.mem_append_left _ (List.mem_append_right _ h)) (by decide +kernel))
set_option maxRecDepth 20000 in
theorem gL_law_X6_init : GoodIn wsL_law (wsX6_init) := ggL_law_X6_init
set_option maxRecDepth 20000 in
theorem ggL_law_X7_init : GoodIn wsL_law wsX7_init := goodIn_r _ [111, 112, 15, 16, 31, 113, 114, 75, 115, 116, 117, 118, 119, 120, 121, 122, 123, 124, 125, 126, 127, 128, 695, 696, 697, 698, 699, 700, 701, 702, 703, 704, 705, 706, 707, 708, 709, 710, 711, 712, 713, 714, 715, 716, 717] (by decide +kernel) (by decide +kernel)
set_option maxRecDepth 20000 in
theorem gL_law_X7_init : GoodIn wsL_law (wsX7_init) := ggL_law_X7_init
set_option maxRecDepth 20000 in
theorem ggL_law_X6_move : GoodIn wsL_law wsX6_move := goodIn_r _ [132, 133, 134, 135, 136, 2, 137, 52, 56, 138, 139, 140, 51, 141, 142, 143, 144, 145, 55, 146, 147, 680, 681, 682, 683, 684, 685, 686, 687, 688, 689, 690, 691, 692, 693, 694, 737, 738, 739, 740, 741, 742, 743, 744, 745, 746, 747, 748, 749, 750] (by decide +kernel) (by decide +kernel)
set_option maxRecDepth 20000 in
theorem gL_law_X6_move : GoodIn wsL_law (wsV RL 70 RX6 yX6_move wsX6_move) := goodIn_app (goodIn_of _ (by decide +kernel)) ggL_law_X6_move
set_option maxRecDepth 20000 in
theorem ggL_law_X7_move : GoodIn wsL_law wsX7_move := goodIn_ca (goodIn_r _ [151, 152, 153, 113, 114, 154, 695, 696, 697, 698, 699, 700, 701, 702, 703, 704, 705, 706, 707, 708, 709, 710, 711, 712, 713, 714, 715, 716, 717] (by decide +kernel) (by decide +kernel)) (goodIn_sub (fun _ h => List.mem_append_left _ (List.mem_append_right _ h)) (by decide +kernel))
set_option maxRecDepth 20000 in
theorem gL_law_X7_move : GoodIn wsL_law (wsV RL 74 RX7 yX7_move wsX7_move) := goodIn_app (goodIn_of _ (by decide +kernel)) ggL_law_X7_move
set_option maxRecDepth 20000 in
theorem ggL_law_L_exchange : GoodIn wsL_law wsL_exchange := goodIn_ca (goodIn_r _ [157, 158, 159, 160, 161, 2, 162, 133, 24, 27, 163, 164, 165, 166, 167, 168, 169, 170, 171, 134, 135, 136, 137, 52, 56, 138, 139, 140, 51, 141, 142, 143, 144, 145, 55, 146, 147, 680, 681, 682, 683, 684, 685, 686, 687, 688, 689, 690, 691, 692, 693, 694, 718, 719, 720, 751, 752, 753, 754, 755, 756, 737, 738, 739, 740, 741, 742, 743, 744, 745, 746, 747, 748, 749, 750] (by decide +kernel) (by decide +kernel)) (goodIn_sub (fun _ h => List.mem_append_left _ (List.mem_append_right _ h)) (by decide +kernel))
set_option maxRecDepth 20000 in
theorem gL_law_L_exchange : GoodIn wsL_law (va_wsS RL 75 yL_exchange wsL_exchange) := goodIn_app (goodIn_of _ (by decide +kernel)) ggL_law_L_exchange
set_option maxRecDepth 20000 in
theorem ggL_law_X7_exchange : GoodIn wsL_law wsX7_exchange := goodIn_ca (goodIn_r _ [175, 113, 114, 154, 176, 177, 178, 5, 179, 153, 180, 181, 182, 183, 127, 184, 185, 186, 187, 152, 695, 696, 697, 698, 699, 700, 701, 702, 703, 704, 705, 706, 707, 708, 709, 710, 711, 712, 713, 714, 715, 716, 717] (by decide +kernel) (by decide +kernel)) (goodIn_sub (fun _ h => List.mem_append_left _ (List.mem_append_right _ h)) (by decide +kernel))
set_option maxRecDepth 20000 in
theorem gL_law_X7_exchange : GoodIn wsL_law (wsV RL 78 RX7 yX7_exchange wsX7_exchange) := goodIn_app (goodIn_of _ (by decide +kernel)) ggL_law_X7_exchange
set_option maxRecDepth 20000 in
theorem ggL_law_X7_thrown : GoodIn wsL_law wsX7_thrown := goodIn_r _ [191, 152, 695, 696, 697, 698, 699, 700, 701, 702, 703, 704, 705, 706, 707, 708, 709, 710, 711, 712, 713, 714, 715, 716, 717] (by decide +kernel) (by decide +kernel)
set_option maxRecDepth 20000 in
theorem gL_law_X7_thrown : GoodIn wsL_law (wsV RL 79 RX7 yX7_thrown wsX7_thrown) := goodIn_app (goodIn_of _ (by decide +kernel)) ggL_law_X7_thrown
set_option maxRecDepth 20000 in
theorem ggL_law_L_adds : GoodIn wsL_law wsL_adds := goodIn_ca (goodIn_ca (goodIn_r _ [194, 158, 195, 196, 197, 198, 2, 199, 200, 201, 133, 24, 25, 27, 163, 164, 165, 166, 167, 168, 134, 135, 136, 137, 52, 56, 138, 139, 140, 51, 141, 142, 143, 144, 145, 55, 146, 147, 680, 681, 682, 683, 684, 685, 686, 687, 688, 689, 690, 691, 692, 693, 694, 718, 719, 720, 751, 752, 753, 754, 755, 756, 737, 738, 739, 740, 741, 742, 743, 744, 745, 746, 747, 748, 749, 750] (by decide +kernel) (by decide +kernel)) (goodIn_sub (fun _ h => List.mem_append_left _ (List.mem_append_right _ h)) (by decide +kernel))) (goodIn_sub (fun _ h => List.mem_append_right _ h) (by decide +kernel))
set_option maxRecDepth 20000 in
theorem gL_law_L_adds : GoodIn wsL_law (va_wsS RL 82 yL_adds wsL_adds) := goodIn_app (goodIn_of _ (by decide +kernel)) ggL_law_L_adds
set_option maxRecDepth 20000 in
theorem ggL_law_X7_adds : GoodIn wsL_law wsX7_adds := goodIn_ca (goodIn_r _ [205, 128, 114, 154, 176, 177, 178, 5, 179, 153, 180, 181, 182, 183, 127, 184, 185, 186, 187, 152, 695, 696, 697, 698, 699, 700, 701, 702, 703, 704, 705, 706, 707, 708, 709, 710, 711, 712, 713, 714, 715, 716, 717] (by decide +kernel) (by decide +kernel)) (goodIn_sub (fun _ h => List.mem_append_left _ (List.mem_append_right _ h)) (by decide +kernel))
set_option maxRecDepth 20000 in
theorem gL_law_X7_adds : GoodIn wsL_law (wsV RL 84 RX7 yX7_adds wsX7_adds) := goodIn_app (goodIn_of _ (by decide +kernel)) ggL_law_X7_adds
set_option maxRecDepth 20000 in
theorem ggL_law_L_order : GoodIn wsL_law wsL_order := goodIn_ca (goodIn_r _ [208, 158, 209, 210, 211, 2, 212, 133, 27, 163, 164, 165, 166, 167, 168, 213, 214, 215, 216, 41, 217, 218, 219, 39, 220, 85, 86, 67, 68, 221, 222, 223, 224, 225, 226, 227, 228, 229, 230, 231, 232, 680, 681, 682, 683, 684, 685, 686, 687, 688, 689, 690, 691, 692, 693, 694, 751, 752, 753, 754, 755, 756, 729, 730, 718, 719, 720] (by decide +kernel) (by decide +kernel)) (goodIn_sub (fun _ h => List.mem_append_left _ (List.mem_append_right _ h)) (by decide +kernel))
set_option maxRecDepth 20000 in
theorem gL_law_L_order : GoodIn wsL_law (va_wsS RL 85 yL_order wsL_order) := goodIn_app (goodIn_of _ (by decide +kernel)) ggL_law_L_order
set_option maxRecDepth 20000 in
theorem ggL_law_X7_order : GoodIn wsL_law wsX7_order := goodIn_ca (goodIn_r _ [236, 176, 177, 178, 5, 179, 153, 184, 185, 186, 187, 152, 237, 238, 239, 240, 127, 114, 113, 128, 695, 696, 697, 698, 699, 700, 701, 702, 703, 704, 705, 706, 707, 708, 709, 710, 711, 712, 713, 714, 715, 716, 717] (by decide +kernel) (by decide +kernel)) (goodIn_sub (fun _ h => List.mem_append_left _ (List.mem_append_right _ h)) (by decide +kernel))
set_option maxRecDepth 20000 in
theorem gL_law_X7_order : GoodIn wsL_law (wsV RL 88 RX7 yX7_order wsX7_order) := goodIn_app (goodIn_of _ (by decide +kernel)) ggL_law_X7_order
set_option maxRecDepth 20000 in
theorem ggL_law_L_choose : GoodIn wsL_law wsL_choose := goodIn_ca (goodIn_r _ [243, 158, 244, 245, 246, 2, 247, 24, 36, 52, 56, 40, 163, 164, 165, 166, 167, 168, 248, 249, 250, 35, 251, 76, 252, 253, 254, 255, 256, 79, 80, 73, 74, 77, 138, 139, 140, 51, 141, 142, 143, 144, 145, 55, 146, 147, 217, 218, 219, 39, 220, 85, 86, 67, 68, 221, 222, 223, 224, 680, 681, 682, 683, 684, 685, 686, 687, 688, 689, 690, 691, 692, 693, 694, 721, 722, 723, 724, 725, 726, 727, 728, 751, 752, 753, 754, 755, 756, 737, 738, 739, 740, 741, 742, 743, 744, 745, 746, 747, 748, 749, 750, 729, 730] (by decide +kernel) (by decide +kernel)) (goodIn_sub (fun _ h => List.mem_append_left _ (List.mem_append_right _ h)) (by decide +kernel))
set_option maxRecDepth 20000 in
theorem gL_law_L_choose : GoodIn wsL_law (va_wsS RL 89 yL_choose wsL_choose) := goodIn_app (goodIn_of _ (by decide +kernel)) ggL_law_L_choose
set_option maxRecDepth 20000 in
theorem ggL_law_X7_choose : GoodIn wsL_law wsX7_choose := goodIn_ca (goodIn_r _ [260, 115, 261, 127, 116, 154, 262, 180, 181, 182, 5, 183, 184, 185, 186, 187, 152, 263, 264, 265, 266, 117, 118, 267, 268, 269, 270, 128, 271, 272, 273, 274, 695, 696, 697, 698, 699, 700, 701, 702, 703, 704, 705, 706, 707, 708, 709, 710, 711, 712, 713, 714, 715, 716, 717] (by decide +kernel) (by decide +kernel)) (goodIn_sub (fun _ h => List.mem_append_left _ (List.mem_append_right _ h)) (by decide +kernel))
set_option maxRecDepth 20000 in
theorem gL_law_X7_choose : GoodIn wsL_law (wsV RL 92 RX7 yX7_choose wsX7_choose) := goodIn_app (goodIn_of _ (by decide +kernel)) ggL_law_X7_choose
set_option maxRecDepth 20000 in
theorem ggL_law_X6_size : GoodIn wsL_law wsX6_size := goodIn_r _ [278, 36, 279, 280, 281, 35, 282, 79, 80, 680, 681, 682, 683, 684, 685, 686, 687, 688, 689, 690, 691, 692, 693, 694, 721, 722, 723, 724, 725, 726, 727, 728] (by decide +kernel) (by decide +kernel)
set_option maxRecDepth 20000 in
theorem gL_law_X6_size : GoodIn wsL_law (wsV RL 93 RX6 yX6_size wsX6_size) := goodIn_app (goodIn_of _ (by decide +kernel)) ggL_law_X6_size
set_option maxRecDepth 20000 in
theorem ggL_law_X7_size : GoodIn wsL_law wsX7_size := goodIn_r _ [286, 152, 287, 288, 289, 5, 290, 261, 127, 128, 695, 696, 697, 698, 699, 700, 701, 702, 703, 704, 705, 706, 707, 708, 709, 710, 711, 712, 713, 714, 715, 716, 717] (by decide +kernel) (by decide +kernel)
set_option maxRecDepth 20000 in
theorem gL_law_X7_size : GoodIn wsL_law (wsV RL 96 RX7 yX7_size wsX7_size) := goodIn_app (goodIn_of _ (by decide +kernel)) ggL_law_X7_size
set_option maxRecDepth 20000 in
theorem ggL_law_L_set : GoodIn wsL_law wsL_set := goodIn_ca (goodIn_r _ [293, 158, 294, 295, 296, 2, 297, 36, 40, 279, 280, 281, 35, 282, 79, 80, 163, 164, 165, 166, 167, 168, 298, 299, 300, 301, 302, 303, 304, 305, 256, 77, 74, 306, 307, 308, 309, 78, 73, 310, 311, 312, 313, 680, 681, 682, 683, 684, 685, 686, 687, 688, 689, 690, 691, 692, 693, 694, 721, 722, 723, 724, 725, 726, 727, 728, 751, 752, 753, 754, 755, 756, 729, 730] (by decide +kernel) (by decide +kernel)) (goodIn_sub (fun _ h => List.mem_append_left _ (List.mem_append_right _ h)) (by decide +kernel))
set_option maxRecDepth 20000 in
theorem gL_law_L_set : GoodIn wsL_law (va_wsS RL 97 yL_set wsL_set) := goodIn_app (goodIn_of _ (by decide +kernel)) ggL_law_L_set
set_option maxRecDepth 20000 in
theorem ggL_law_X7_set : GoodIn wsL_law wsX7_set := goodIn_r _ [317, 262, 318, 319, 320, 5, 321, 287, 288, 289, 290, 261, 127, 128, 184, 185, 186, 187, 152, 695, 696, 697, 698, 699, 700, 701, 702, 703, 704, 705, 706, 707, 708, 709, 710, 711, 712, 713, 714, 715, 716, 717] (by decide +kernel) (by decide +kernel)
set_option maxRecDepth 20000 in
theorem gL_law_X7_set : GoodIn wsL_law (wsV RL 100 RX7 yX7_set wsX7_set) := goodIn_app (goodIn_of _ (by decide +kernel)) ggL_law_X7_set
set_option maxRecDepth 20000 in
theorem ggL_law_X6_number : GoodIn wsL_law wsX6_number := goodIn_ca (goodIn_r _ [325, 36, 40, 326, 327, 328, 35, 329, 256, 77, 73, 74, 330, 331, 332, 333, 334, 335, 336, 680, 681, 682, 683, 684, 685, 686, 687, 688, 689, 690, 691, 692, 693, 694, 721, 722, 723, 724, 725, 726, 727, 728, 729, 730] (by decide +kernel) (by decide +kernel)) (goodIn_sub (fun _ h => List.mem_append_left _ (List.mem_append_right _ h)) (by decide +kernel))
set_option maxRecDepth 20000 in
theorem gL_law_X6_number : GoodIn wsL_law (wsV RL 101 RX6 yX6_number wsX6_number) := goodIn_app (goodIn_of _ (by decide +kernel)) ggL_law_X6_number
set_option maxRecDepth 20000 in
theorem ggL_law_X7_number : GoodIn wsL_law wsX7_number := goodIn_r _ [340, 152, 262, 695, 696, 697, 698, 699, 700, 701, 702, 703, 704, 705, 706, 707, 708, 709, 710, 711, 712, 713, 714, 715, 716, 717] (by decide +kernel) (by decide +kernel)
set_option maxRecDepth 20000 in
theorem gL_law_X7_number : GoodIn wsL_law (wsV RL 104 RX7 yX7_number wsX7_number) := goodIn_app (goodIn_of _ (by decide +kernel)) ggL_law_X7_number
set_option maxRecDepth 20000 in
theorem ggL_law_L_place : GoodIn wsL_law wsL_place := goodIn_ca (goodIn_r _ [343, 158, 344, 345, 346, 2, 347, 24, 36, 40, 163, 164, 165, 166, 167, 168, 248, 249, 250, 35, 251, 76, 680, 681, 682, 683, 684, 685, 686, 687, 688, 689, 690, 691, 692, 693, 694, 729, 730, 751, 752, 753, 754, 755, 756, 721, 722, 723, 724, 725, 726, 727, 728] (by decide +kernel) (by decide +kernel)) (goodIn_sub (fun _ h => List.mem_append_left _ (List.mem_append_right _ h)) (by decide +kernel))
set_option maxRecDepth 20000 in
theorem gL_law_L_place : GoodIn wsL_law (va_wsS RL 105 yL_place wsL_place) := goodIn_app (goodIn_of _ (by decide +kernel)) ggL_law_L_place
set_option maxRecDepth 20000 in
theorem ggL_law_X7_place : GoodIn wsL_law wsX7_place := goodIn_ca (goodIn_r _ [351, 262, 117, 180, 181, 182, 5, 183, 127, 184, 185, 186, 187, 152, 352, 353, 354, 355, 261, 118, 128, 271, 272, 273, 274, 356, 357, 358, 359, 116, 695, 696, 697, 698, 699, 700, 701, 702, 703, 704, 705, 706, 707, 708, 709, 710, 711, 712, 713, 714, 715, 716, 717] (by decide +kernel) (by decide +kernel)) (goodIn_sub (fun _ h => List.mem_append_left _ (List.mem_append_right _ h)) (by decide +kernel))
set_option maxRecDepth 20000 in
theorem gL_law_X7_place : GoodIn wsL_law (wsV RL 107 RX7 yX7_place wsX7_place) := goodIn_app (goodIn_of _ (by decide +kernel)) ggL_law_X7_place
set_option maxRecDepth 20000 in
theorem ggL_law_L_twist : GoodIn wsL_law wsL_twist := goodIn_ca (goodIn_r _ [362, 158, 363, 364, 365, 2, 366, 24, 36, 40, 163, 164, 165, 166, 167, 168, 248, 249, 250, 35, 251, 76, 680, 681, 682, 683, 684, 685, 686, 687, 688, 689, 690, 691, 692, 693, 694, 729, 730, 751, 752, 753, 754, 755, 756, 721, 722, 723, 724, 725, 726, 727, 728] (by decide +kernel) (by decide +kernel)) (goodIn_sub (fun _ h => List.mem_append_left _ (List.mem_append_right _ h)) (by decide +kernel))
set_option maxRecDepth 20000 in
theorem gL_law_L_twist : GoodIn wsL_law (va_wsS RL 108 yL_twist wsL_twist) := goodIn_app (goodIn_of _ (by decide +kernel)) ggL_law_L_twist
set_option maxRecDepth 20000 in
theorem ggL_law_X7_twist : GoodIn wsL_law wsX7_twist := goodIn_ca (goodIn_r _ [370, 262, 118, 180, 181, 182, 5, 183, 127, 184, 185, 186, 187, 152, 352, 353, 354, 355, 261, 128, 117, 271, 272, 273, 274, 356, 357, 358, 359, 116, 695, 696, 697, 698, 699, 700, 701, 702, 703, 704, 705, 706, 707, 708, 709, 710, 711, 712, 713, 714, 715, 716, 717] (by decide +kernel) (by decide +kernel)) (goodIn_sub (fun _ h => List.mem_append_left _ (List.mem_append_right _ h)) (by decide +kernel))
set_option maxRecDepth 20000 in
theorem gL_law_X7_twist : GoodIn wsL_law (wsV RL 110 RX7 yX7_twist wsX7_twist) := goodIn_app (goodIn_of _ (by decide +kernel)) ggL_law_X7_twist
set_option maxRecDepth 20000 in
theorem ggL_law_L_apply : GoodIn wsL_law wsL_apply := goodIn_ca (goodIn_r _ [373, 158, 374, 375, 376, 2, 377, 133, 40, 27, 163, 164, 165, 166, 167, 168, 225, 226, 227, 39, 228, 85, 86, 680, 681, 682, 683, 684, 685, 686, 687, 688, 689, 690, 691, 692, 693, 694, 751, 752, 753, 754, 755, 756, 729, 730, 718, 719, 720] (by decide +kernel) (by decide +kernel)) (goodIn_sub (fun _ h => List.mem_append_left _ (List.mem_append_right _ h)) (by decide +kernel))
set_option maxRecDepth 20000 in
theorem gL_law_L_apply : GoodIn wsL_law (va_wsS RL 111 yL_apply wsL_apply) := goodIn_app (goodIn_of _ (by decide +kernel)) ggL_law_L_apply
set_option maxRecDepth 20000 in
theorem ggL_law_X7_apply : GoodIn wsL_law wsX7_apply := goodIn_ca (goodIn_r _ [381, 262, 176, 177, 178, 5, 179, 153, 184, 185, 186, 187, 152, 352, 353, 354, 355, 261, 118, 128, 117, 127, 271, 272, 273, 274, 382, 383, 384, 385, 114, 113, 267, 268, 269, 270, 695, 696, 697, 698, 699, 700, 701, 702, 703, 704, 705, 706, 707, 708, 709, 710, 711, 712, 713, 714, 715, 716, 717] (by decide +kernel) (by decide +kernel)) (goodIn_sub (fun _ h => List.mem_append_left _ (List.mem_append_right _ h)) (by decide +kernel))
set_option maxRecDepth 20000 in
theorem gL_law_X7_apply : GoodIn wsL_law (wsV RL 113 RX7 yX7_apply wsX7_apply) := goodIn_app (goodIn_of _ (by decide +kernel)) ggL_law_X7_apply
set_option maxRecDepth 20000 in
theorem ggL_law_X6_build : GoodIn wsL_law wsX6_build := goodIn_ca (goodIn_r _ [389, 48, 36, 133, 43, 27, 41, 44, 52, 390, 391, 392, 47, 393, 394, 91, 92, 93, 94, 95, 395, 2, 396, 31, 397, 398, 399, 35, 400, 256, 74, 401, 402, 403, 29, 404, 62, 63, 61, 405, 406, 407, 408, 409, 299, 300, 301, 80, 302, 303, 304, 305, 77, 306, 307, 308, 309, 78, 73, 310, 311, 312, 313, 410, 226, 227, 39, 228, 85, 86, 411, 327, 328, 329, 330, 331, 332, 333, 334, 335, 336, 412, 413, 414, 415, 213, 214, 215, 216, 217, 218, 219, 220, 67, 68, 221, 222, 223, 224, 225, 229, 230, 231, 232, 326, 416, 417, 418, 51, 419, 142, 420, 421, 100, 101, 422, 423, 280, 281, 282, 79, 424, 425, 426, 427, 428, 429, 430, 431, 432, 433, 167, 168, 434, 435, 436, 437, 438, 439, 440, 441, 680, 681, 682, 683, 684, 685, 686, 687, 688, 689, 690, 691, 692, 693, 694, 731, 732, 733, 734, 735, 736, 721, 722, 723, 724, 725, 726, 727, 728, 718, 719, 720, 729, 730, 737, 738, 739, 740, 741, 742, 757, 758, 759, 760, 751, 752, 753, 754, 755, 756] (by decide +kernel) (by decide +kernel)) (goodIn_sub (fun _ h => List.mem_append_left _ (List.mem_append_right _ h)) (by decide +kernel))
set_option maxRecDepth 20000 in
theorem gL_law_X6_build : GoodIn wsL_law (wsV RL 114 RX6 yX6_build wsX6_build) := goodIn_app (goodIn_of _ (by decide +kernel)) ggL_law_X6_build
set_option maxRecDepth 20000 in
theorem ggL_law_X7_build : GoodIn wsL_law wsX7_build := goodIn_ca (goodIn_r _ [445, 152, 446, 120, 121, 153, 154, 447, 287, 288, 289, 5, 290, 261, 127, 128, 263, 264, 265, 266, 117, 116, 118, 267, 268, 269, 270, 271, 272, 273, 274, 448, 449, 450, 451, 237, 238, 239, 240, 114, 113, 352, 353, 354, 355, 452, 453, 454, 455, 695, 696, 697, 698, 699, 700, 701, 702, 703, 704, 705, 706, 707, 708, 709, 710, 711, 712, 713, 714, 715, 716, 717] (by decide +kernel) (by decide +kernel)) (goodIn_sub (fun _ h => List.mem_append_left _ (List.mem_append_right _ h)) (by decide +kernel))
set_option maxRecDepth 20000 in
theorem gL_law_X7_build : GoodIn wsL_law (wsV RL 117 RX7 yX7_build wsX7_build) := goodIn_app (goodIn_of _ (by decide +kernel)) ggL_law_X7_build
set_option maxRecDepth 20000 in
theorem ggL_law_L_value : GoodIn wsL_law wsL_value := goodIn_ca (goodIn_r _ [458, 158, 459, 460, 461, 2, 462, 36, 52, 279, 280, 281, 35, 282, 79, 80, 163, 164, 165, 166, 167, 168, 463, 464, 465, 51, 466, 142, 100, 680, 681, 682, 683, 684, 685, 686, 687, 688, 689, 690, 691, 692, 693, 694, 721, 722, 723, 724, 725, 726, 727, 728, 751, 752, 753, 754, 755, 756, 737, 738, 739, 740, 741, 742] (by decide +kernel) (by decide +kernel)) (goodIn_sub (fun _ h => List.mem_append_left _ (List.mem_append_right _ h)) (by decide +kernel))
set_option maxRecDepth 20000 in
theorem gL_law_L_value : GoodIn wsL_law (va_wsS RL 118 yL_value wsL_value) := goodIn_app (goodIn_of _ (by decide +kernel)) ggL_law_L_value
set_option maxRecDepth 20000 in
theorem ggL_law_X7_value : GoodIn wsL_law wsX7_value := goodIn_ca (goodIn_r _ [470, 154, 120, 318, 319, 320, 5, 321, 287, 288, 289, 290, 261, 127, 128, 184, 185, 186, 187, 152, 695, 696, 697, 698, 699, 700, 701, 702, 703, 704, 705, 706, 707, 708, 709, 710, 711, 712, 713, 714, 715, 716, 717] (by decide +kernel) (by decide +kernel)) (goodIn_sub (fun _ h => List.mem_append_left _ (List.mem_append_right _ h)) (by decide +kernel))
set_option maxRecDepth 20000 in
theorem gL_law_X7_value : GoodIn wsL_law (wsV RL 120 RX7 yX7_value wsX7_value) := goodIn_app (goodIn_of _ (by decide +kernel)) ggL_law_X7_value
set_option maxRecDepth 20000 in
theorem ggL_law_X6_count : GoodIn wsL_law wsX6_count := goodIn_ca (goodIn_r _ [474, 52, 475, 476, 477, 51, 478, 421, 422, 100, 101, 479, 480, 481, 482, 680, 681, 682, 683, 684, 685, 686, 687, 688, 689, 690, 691, 692, 693, 694, 737, 738, 739, 740, 741, 742] (by decide +kernel) (by decide +kernel)) (goodIn_sub (fun _ h => List.mem_append_left _ (List.mem_append_right _ h)) (by decide +kernel))
set_option maxRecDepth 20000 in
theorem gL_law_X6_count : GoodIn wsL_law (wsV RL 121 RX6 yX6_count wsX6_count) := goodIn_app (goodIn_of _ (by decide +kernel)) ggL_law_X6_count
set_option maxRecDepth 20000 in
theorem ggL_law_X7_count : GoodIn wsL_law wsX7_count := goodIn_ca (goodIn_r _ [486, 152, 154, 446, 120, 695, 696, 697, 698, 699, 700, 701, 702, 703, 704, 705, 706, 707, 708, 709, 710, 711, 712, 713, 714, 715, 716, 717] (by decide +kernel) (by decide +kernel)) (goodIn_sub (fun _ h => List.mem_append_left _ (List.mem_append_right _ h)) (by decide +kernel))
set_option maxRecDepth 20000 in
theorem gL_law_X7_count : GoodIn wsL_law (wsV RL 124 RX7 yX7_count wsX7_count) := goodIn_app (goodIn_of _ (by decide +kernel)) ggL_law_X7_count
set_option maxRecDepth 20000 in
theorem ggL_law_L_packed : GoodIn wsL_law wsL_packed := goodIn_ca (goodIn_ca (goodIn_r _ [489, 195, 490, 491, 492, 2, 493, 200, 201, 52, 494, 495, 496, 51, 497, 421, 498, 499, 500, 501, 100, 502, 503, 504, 505, 506, 18, 19, 20, 680, 681, 682, 683, 684, 685, 686, 687, 688, 689, 690, 691, 692, 693, 694, 737, 738, 739, 740, 741, 742] (by decide +kernel) (by decide +kernel)) (goodIn_sub (fun _ h => List.mem_append_left _ (List.mem_append_right _ h)) (by decide +kernel))) (goodIn_sub (fun _ h => List.mem_append_right _ h) (by decide +kernel))
set_option maxRecDepth 20000 in
theorem gL_law_L_packed : GoodIn wsL_law (va_wsS RL 125 yL_packed wsL_packed) := goodIn_app (goodIn_of _ (by decide +kernel)) ggL_law_L_packed
set_option maxRecDepth 20000 in
theorem ggL_law_X7_packed : GoodIn wsL_law wsX7_packed := goodIn_ca (goodIn_r _ [510, 154, 119, 446, 184, 185, 186, 5, 187, 152, 511, 512, 513, 514, 120, 695, 696, 697, 698, 699, 700, 701, 702, 703, 704, 705, 706, 707, 708, 709, 710, 711, 712, 713, 714, 715, 716, 717] (by decide +kernel) (by decide +kernel)) (goodIn_sub (fun _ h => List.mem_append_left _ (List.mem_append_right _ h)) (by decide +kernel))
set_option maxRecDepth 20000 in
theorem gL_law_X7_packed : GoodIn wsL_law (wsV RL 128 RX7 yX7_packed wsX7_packed) := goodIn_app (goodIn_of _ (by decide +kernel)) ggL_law_X7_packed
set_option maxRecDepth 20000 in
theorem ggL_law_X6_down : GoodIn wsL_law wsX6_down := goodIn_ca (goodIn_r _ [518, 52, 36, 40, 133, 326, 327, 328, 35, 329, 256, 77, 73, 74, 330, 331, 332, 333, 334, 335, 336, 463, 464, 465, 51, 466, 142, 100, 519, 520, 521, 2, 522, 41, 27, 412, 413, 414, 415, 213, 214, 215, 216, 217, 218, 219, 39, 220, 85, 86, 67, 68, 221, 222, 223, 224, 225, 226, 227, 228, 229, 230, 231, 232, 523, 524, 525, 526, 680, 681, 682, 683, 684, 685, 686, 687, 688, 689, 690, 691, 692, 693, 694, 721, 722, 723, 724, 725, 726, 727, 728, 729, 730, 737, 738, 739, 740, 741, 742, 718, 719, 720] (by decide +kernel) (by decide +kernel)) (goodIn_sub (fun _ h => List.mem_append_left _ (List.mem_append_right _ h)) (by decide +kernel))
set_option maxRecDepth 20000 in
theorem gL_law_X6_down : GoodIn wsL_law (wsV RL 129 RX6 yX6_down wsX6_down) := goodIn_app (goodIn_of _ (by decide +kernel)) ggL_law_X6_down
set_option maxRecDepth 20000 in
theorem ggL_law_X7_down : GoodIn wsL_law wsX7_down := goodIn_ca (goodIn_r _ [530, 152, 154, 120, 262, 153, 447, 448, 449, 450, 5, 451, 237, 238, 239, 240, 127, 114, 113, 128, 352, 353, 354, 355, 261, 118, 117, 271, 272, 273, 274, 382, 383, 384, 385, 267, 268, 269, 270, 695, 696, 697, 698, 699, 700, 701, 702, 703, 704, 705, 706, 707, 708, 709, 710, 711, 712, 713, 714, 715, 716, 717] (by decide +kernel) (by decide +kernel)) (goodIn_sub (fun _ h => List.mem_append_left _ (List.mem_append_right _ h)) (by decide +kernel))
set_option maxRecDepth 20000 in
theorem gL_law_X7_down : GoodIn wsL_law (wsV RL 132 RX7 yX7_down wsX7_down) := goodIn_app (goodIn_of _ (by decide +kernel)) ggL_law_X7_down
set_option maxRecDepth 20000 in
theorem ggL_law_X6_symmetry : GoodIn wsL_law wsX6_symmetry := goodIn_ca (goodIn_r _ [534, 535, 32, 56, 66, 67, 2, 68, 143, 144, 145, 55, 146, 147, 680, 681, 682, 683, 684, 685, 686, 687, 688, 689, 690, 691, 692, 693, 694, 743, 744, 745, 746, 747, 748, 749, 750] (by decide +kernel) (by decide +kernel)) (goodIn_sub (fun _ h => List.mem_append_left _ (List.mem_append_right _ h)) (by decide +kernel))
set_option maxRecDepth 20000 in
theorem gL_law_X6_symmetry : GoodIn wsL_law (wsV RL 133 RX6 yX6_symmetry wsX6_symmetry) := goodIn_app (goodIn_of _ (by decide +kernel)) ggL_law_X6_symmetry
set_option maxRecDepth 20000 in
theorem ggL_law_X7_symmetry : GoodIn wsL_law wsX7_symmetry := goodIn_ca (goodIn_r _ [539, 152, 540, 123, 695, 696, 697, 698, 699, 700, 701, 702, 703, 704, 705, 706, 707, 708, 709, 710, 711, 712, 713, 714, 715, 716, 717] (by decide +kernel) (by decide +kernel)) (goodIn_sub (fun _ h => List.mem_append_left _ (List.mem_append_right _ h)) (by decide +kernel))
set_option maxRecDepth 20000 in
theorem gL_law_X7_symmetry : GoodIn wsL_law (wsV RL 136 RX7 yX7_symmetry wsX7_symmetry) := goodIn_app (goodIn_of _ (by decide +kernel)) ggL_law_X7_symmetry
set_option maxRecDepth 20000 in
theorem ggL_law_L_turn : GoodIn wsL_law wsL_turn := goodIn_ca (goodIn_r _ [543, 158, 544, 545, 546, 2, 547, 535, 24, 32, 56, 163, 164, 165, 166, 167, 168, 169, 170, 171, 143, 144, 145, 55, 146, 147, 680, 681, 682, 683, 684, 685, 686, 687, 688, 689, 690, 691, 692, 693, 694, 751, 752, 753, 754, 755, 756, 743, 744, 745, 746, 747, 748, 749, 750] (by decide +kernel) (by decide +kernel)) (goodIn_sub (fun _ h => List.mem_append_left _ (List.mem_append_right _ h)) (by decide +kernel))
set_option maxRecDepth 20000 in
theorem gL_law_L_turn : GoodIn wsL_law (va_wsS RL 137 yL_turn wsL_turn) := goodIn_app (goodIn_of _ (by decide +kernel)) ggL_law_L_turn
set_option maxRecDepth 20000 in
theorem ggL_law_X7_turn : GoodIn wsL_law wsX7_turn := goodIn_ca (goodIn_r _ [551, 540, 123, 180, 181, 182, 5, 183, 127, 184, 185, 186, 187, 152, 695, 696, 697, 698, 699, 700, 701, 702, 703, 704, 705, 706, 707, 708, 709, 710, 711, 712, 713, 714, 715, 716, 717] (by decide +kernel) (by decide +kernel)) (goodIn_sub (fun _ h => List.mem_append_left _ (List.mem_append_right _ h)) (by decide +kernel))
set_option maxRecDepth 20000 in
theorem gL_law_X7_turn : GoodIn wsL_law (wsV RL 139 RX7 yX7_turn wsX7_turn) := goodIn_app (goodIn_of _ (by decide +kernel)) ggL_law_X7_turn
set_option maxRecDepth 20000 in
theorem ggL_law_L_good : GoodIn wsL_law wsL_good := goodIn_ca (goodIn_r _ [554, 158, 555, 556, 557, 2, 558, 535, 32, 163, 164, 165, 166, 167, 168, 559, 560, 561, 562, 24, 36, 133, 27, 248, 249, 250, 35, 251, 76, 563, 564, 565, 566, 567, 568, 569, 29, 570, 62, 63, 680, 681, 682, 683, 684, 685, 686, 687, 688, 689, 690, 691, 692, 693, 694, 751, 752, 753, 754, 755, 756, 721, 722, 723, 724, 725, 726, 727, 728, 718, 719, 720] (by decide +kernel) (by decide +kernel)) (goodIn_sub (fun _ h => List.mem_append_left _ (List.mem_append_right _ h)) (by decide +kernel))
set_option maxRecDepth 20000 in
theorem gL_law_L_good : GoodIn wsL_law (va_wsS RL 140 yL_good wsL_good) := goodIn_app (goodIn_of _ (by decide +kernel)) ggL_law_L_good
set_option maxRecDepth 20000 in
theorem ggL_law_X7_good : GoodIn wsL_law wsX7_good := goodIn_ca (goodIn_r _ [574, 540, 184, 185, 186, 5, 187, 152, 575, 576, 577, 578, 127, 115, 123, 153, 579, 580, 581, 582, 113, 114, 695, 696, 697, 698, 699, 700, 701, 702, 703, 704, 705, 706, 707, 708, 709, 710, 711, 712, 713, 714, 715, 716, 717] (by decide +kernel) (by decide +kernel)) (goodIn_sub (fun _ h => List.mem_append_left _ (List.mem_append_right _ h)) (by decide +kernel))
set_option maxRecDepth 20000 in
theorem gL_law_X7_good : GoodIn wsL_law (wsV RL 142 RX7 yX7_good wsX7_good) := goodIn_app (goodIn_of _ (by decide +kernel)) ggL_law_X7_good
set_option maxRecDepth 20000 in
theorem ggL_law_L_least : GoodIn wsL_law wsL_least := goodIn_ca (goodIn_r _ [585, 158, 586, 587, 588, 2, 589, 36, 56, 279, 280, 281, 35, 282, 79, 80, 163, 164, 165, 166, 167, 168, 590, 591, 592, 593, 535, 32, 41, 42, 594, 595, 596, 55, 597, 598, 599, 600, 106, 107, 108, 601, 602, 395, 396, 31, 67, 68, 559, 560, 561, 562, 24, 133, 27, 248, 249, 250, 251, 76, 563, 564, 565, 566, 567, 568, 569, 29, 570, 62, 63, 603, 604, 605, 606, 607, 299, 300, 301, 302, 303, 304, 305, 256, 77, 74, 306, 307, 308, 309, 78, 73, 310, 311, 312, 313, 608, 609, 610, 39, 611, 85, 86, 612, 327, 328, 329, 330, 331, 332, 333, 334, 335, 336, 613, 614, 615, 616, 617, 618, 619, 620, 621, 22, 19, 23, 622, 18, 20, 623, 624, 625, 626, 627, 680, 681, 682, 683, 684, 685, 686, 687, 688, 689, 690, 691, 692, 693, 694, 721, 722, 723, 724, 725, 726, 727, 728, 751, 752, 753, 754, 755, 756, 743, 744, 745, 746, 747, 748, 749, 750, 718, 719, 720, 729, 730] (by decide +kernel) (by decide +kernel)) (goodIn_sub (fun _ h => List.mem_append_left _ (List.mem_append_right _ h)) (by decide +kernel))
set_option maxRecDepth 20000 in
theorem gL_law_L_least : GoodIn wsL_law (va_wsS RL 143 yL_least wsL_least) := goodIn_app (goodIn_of _ (by decide +kernel)) ggL_law_L_least
set_option maxRecDepth 20000 in
theorem ggL_law_X7_least : GoodIn wsL_law wsX7_least := goodIn_ca (goodIn_r _ [631, 318, 319, 320, 5, 321, 287, 288, 289, 290, 261, 127, 128, 184, 185, 186, 187, 152, 632, 633, 634, 635, 540, 126, 122, 575, 576, 577, 578, 115, 123, 153, 579, 580, 581, 582, 113, 114, 636, 637, 638, 639, 121, 640, 641, 642, 643, 124, 117, 125, 118, 116, 352, 353, 354, 355, 271, 272, 273, 274, 356, 357, 358, 359, 267, 268, 269, 270, 695, 696, 697, 698, 699, 700, 701, 702, 703, 704, 705, 706, 707, 708, 709, 710, 711, 712, 713, 714, 715, 716, 717] (by decide +kernel) (by decide +kernel)) (goodIn_sub (fun _ h => List.mem_append_left _ (List.mem_append_right _ h)) (by decide +kernel))
set_option maxRecDepth 20000 in
theorem gL_law_X7_least : GoodIn wsL_law (wsV RL 145 RX7 yX7_least wsX7_least) := goodIn_app (goodIn_of _ (by decide +kernel)) ggL_law_X7_least
set_option maxRecDepth 20000 in
theorem ggL_law_X6_classes : GoodIn wsL_law wsX6_classes := goodIn_ca (goodIn_r _ [647, 56, 590, 591, 592, 2, 593, 36, 535, 32, 41, 42, 594, 595, 596, 55, 597, 598, 599, 600, 106, 107, 108, 601, 602, 280, 281, 35, 282, 79, 80, 395, 396, 31, 67, 68, 559, 560, 561, 562, 24, 133, 27, 248, 249, 250, 251, 76, 563, 564, 565, 566, 567, 568, 569, 29, 570, 62, 63, 603, 604, 605, 606, 607, 299, 300, 301, 302, 303, 304, 305, 256, 77, 74, 306, 307, 308, 309, 78, 73, 310, 311, 312, 313, 608, 609, 610, 39, 611, 85, 86, 612, 327, 328, 329, 330, 331, 332, 333, 334, 335, 336, 613, 614, 615, 616, 617, 618, 619, 620, 621, 22, 19, 23, 622, 18, 20, 623, 624, 625, 626, 680, 681, 682, 683, 684, 685, 686, 687, 688, 689, 690, 691, 692, 693, 694, 743, 744, 745, 746, 747, 748, 749, 750, 721, 722, 723, 724, 725, 726, 727, 728, 718, 719, 720, 729, 730] (by decide +kernel) (by decide +kernel)) (goodIn_sub (fun _ h => List.mem_append_left _ (List.mem_append_right _ h)) (by decide +kernel))
set_option maxRecDepth 20000 in
theorem gL_law_X6_classes : GoodIn wsL_law (wsV RL 146 RX6 yX6_classes wsX6_classes) := goodIn_app (goodIn_of _ (by decide +kernel)) ggL_law_X6_classes
set_option maxRecDepth 20000 in
theorem ggL_law_X7_classes : GoodIn wsL_law wsX7_classes := goodIn_ca (goodIn_r _ [651, 152, 122, 632, 633, 634, 5, 635, 540, 126, 575, 576, 577, 578, 127, 115, 123, 153, 579, 580, 581, 582, 113, 114, 287, 288, 289, 290, 261, 128, 636, 637, 638, 639, 121, 640, 641, 642, 643, 124, 117, 125, 118, 116, 352, 353, 354, 355, 271, 272, 273, 274, 356, 357, 358, 359, 267, 268, 269, 270, 695, 696, 697, 698, 699, 700, 701, 702, 703, 704, 705, 706, 707, 708, 709, 710, 711, 712, 713, 714, 715, 716, 717] (by decide +kernel) (by decide +kernel)) (goodIn_sub (fun _ h => List.mem_append_left _ (List.mem_append_right _ h)) (by decide +kernel))
set_option maxRecDepth 20000 in
theorem gL_law_X7_classes : GoodIn wsL_law (wsV RL 149 RX7 yX7_classes wsX7_classes) := goodIn_app (goodIn_of _ (by decide +kernel)) ggL_law_X7_classes
set_option maxRecDepth 20000 in
theorem ggL_law_X6_file : GoodIn wsL_law wsX6_file := goodIn_ca (goodIn_r _ [655, 52, 656, 657, 658, 51, 659, 421, 660, 661, 662, 2, 663, 24, 25, 36, 664, 665, 666, 667, 502, 503, 504, 505, 100, 506, 18, 19, 20, 668, 669, 670, 671, 680, 681, 682, 683, 684, 685, 686, 687, 688, 689, 690, 691, 692, 693, 694, 737, 738, 739, 740, 741, 742, 721, 722, 723, 724, 725, 726, 727, 728] (by decide +kernel) (by decide +kernel)) (goodIn_sub (fun _ h => List.mem_append_left _ (List.mem_append_right _ h)) (by decide +kernel))
set_option maxRecDepth 20000 in
theorem gL_law_X6_file : GoodIn wsL_law (wsV RL 150 RX6 yX6_file wsX6_file) := goodIn_app (goodIn_of _ (by decide +kernel)) ggL_law_X6_file
set_option maxRecDepth 20000 in
theorem ggL_law_X7_file : GoodIn wsL_law wsX7_file := goodIn_ca (goodIn_r _ [675, 152, 446, 154, 676, 677, 678, 5, 679, 127, 128, 261, 447, 511, 512, 513, 514, 120, 695, 696, 697, 698, 699, 700, 701, 702, 703, 704, 705, 706, 707, 708, 709, 710, 711, 712, 713, 714, 715, 716, 717] (by decide +kernel) (by decide +kernel)) (goodIn_sub (fun _ h => List.mem_append_left _ (List.mem_append_right _ h)) (by decide +kernel))
set_option maxRecDepth 20000 in
theorem gL_law_X7_file : GoodIn wsL_law (wsV RL 153 RX7 yX7_file wsX7_file) := goodIn_app (goodIn_of _ (by decide +kernel)) ggL_law_X7_file
theorem dL_law_0 : decode cL_law 0 = .ok (.new 8, 3) := by decide +kernel
theorem dL_law_3 : decode cL_law 3 = .ok (.dup, 1) := by decide +kernel
theorem dL_law_4 : decode cL_law 4 = .ok (.aload_n 0, 1) := by decide +kernel
theorem dL_law_5 : decode cL_law 5 = .ok (.iconst 0, 1) := by decide +kernel
theorem dL_law_6 : decode cL_law 6 = .ok (.invokestatic 58, 3) := by decide +kernel
theorem dL_law_9 : decode cL_law 9 = .ok (.aload_n 0, 1) := by decide +kernel
theorem dL_law_10 : decode cL_law 10 = .ok (.iconst 1, 1) := by decide +kernel
theorem dL_law_11 : decode cL_law 11 = .ok (.invokestatic 58, 3) := by decide +kernel
theorem dL_law_14 : decode cL_law 14 = .ok (.invokespecial 64, 3) := by decide +kernel
theorem dL_law_17 : decode cL_law 17 = .ok (.astore_n 1, 1) := by decide +kernel
theorem dL_law_18 : decode cL_law 18 = .ok (.new 67, 3) := by decide +kernel
theorem dL_law_21 : decode cL_law 21 = .ok (.dup, 1) := by decide +kernel
theorem dL_law_22 : decode cL_law 22 = .ok (.aload_n 0, 1) := by decide +kernel
theorem dL_law_23 : decode cL_law 23 = .ok (.iconst 0, 1) := by decide +kernel
theorem dL_law_24 : decode cL_law 24 = .ok (.invokestatic 58, 3) := by decide +kernel
theorem dL_law_27 : decode cL_law 27 = .ok (.aload_n 0, 1) := by decide +kernel
theorem dL_law_28 : decode cL_law 28 = .ok (.iconst 1, 1) := by decide +kernel
theorem dL_law_29 : decode cL_law 29 = .ok (.invokestatic 58, 3) := by decide +kernel
theorem dL_law_32 : decode cL_law 32 = .ok (.invokespecial 69, 3) := by decide +kernel
theorem dL_law_35 : decode cL_law 35 = .ok (.astore_n 2, 1) := by decide +kernel
theorem dL_law_36 : decode cL_law 36 = .ok (.iconst 1, 1) := by decide +kernel
theorem dL_law_37 : decode cL_law 37 = .ok (.newarray .long, 2) := by decide +kernel
theorem dL_law_39 : decode cL_law 39 = .ok (.astore_n 3, 1) := by decide +kernel
theorem dL_law_40 : decode cL_law 40 = .ok (.iconst 2, 1) := by decide +kernel
theorem dL_law_41 : decode cL_law 41 = .ok (.istore 4, 2) := by decide +kernel
theorem dL_law_43 : decode cL_law 43 = .ok (.iload 4, 2) := by decide +kernel
theorem dL_law_45 : decode cL_law 45 = .ok (.aload_n 0, 1) := by decide +kernel
theorem dL_law_46 : decode cL_law 46 = .ok (.arraylength, 1) := by decide +kernel
theorem dL_law_47 : decode cL_law 47 = .ok (.iconst 4, 1) := by decide +kernel
theorem dL_law_48 : decode cL_law 48 = .ok (.isub, 1) := by decide +kernel
theorem dL_law_49 : decode cL_law 49 = .ok (.if_icmp .gt 1104, 3) := by decide +kernel
theorem dL_law_52 : decode cL_law 52 = .ok (.aload_n 0, 1) := by decide +kernel
theorem dL_law_53 : decode cL_law 53 = .ok (.iload 4, 2) := by decide +kernel
theorem dL_law_55 : decode cL_law 55 = .ok (.iaload, 1) := by decide +kernel
theorem dL_law_56 : decode cL_law 56 = .ok (.bipush 31, 2) := by decide +kernel
theorem dL_law_58 : decode cL_law 58 = .ok (.iand, 1) := by decide +kernel
theorem dL_law_59 : decode cL_law 59 = .ok (.tableswitch 1088 0 21 #[101, 114, 201, 288, 344, 435, 448, 484, 497, 553, 609, 645, 670, 726, 751, 818, 831, 844, 931, 994, 1050, 1063], 101) := by decide +kernel
theorem dL_law_160 : decode cL_law 160 = .ok (.aload_n 1, 1) := by decide +kernel
theorem dL_law_161 : decode cL_law 161 = .ok (.invokevirtual 70, 3) := by decide +kernel
theorem dL_law_164 : decode cL_law 164 = .ok (.aload_n 2, 1) := by decide +kernel
theorem dL_law_165 : decode cL_law 165 = .ok (.invokevirtual 74, 3) := by decide +kernel
theorem dL_law_168 : decode cL_law 168 = .ok (.if_icmp .eq 979, 3) := by decide +kernel
theorem dL_law_171 : decode cL_law 171 = .ok (.iconst 0, 1) := by decide +kernel
theorem dL_law_172 : decode cL_law 172 = .ok (.ireturn, 1) := by decide +kernel
theorem dL_law_173 : decode cL_law 173 = .ok (.aload_n 1, 1) := by decide +kernel
theorem dL_law_174 : decode cL_law 174 = .ok (.aload_n 0, 1) := by decide +kernel
theorem dL_law_175 : decode cL_law 175 = .ok (.iload 4, 2) := by decide +kernel
theorem dL_law_177 : decode cL_law 177 = .ok (.iconst 1, 1) := by decide +kernel
theorem dL_law_178 : decode cL_law 178 = .ok (.iadd, 1) := by decide +kernel
theorem dL_law_179 : decode cL_law 179 = .ok (.iaload, 1) := by decide +kernel
theorem dL_law_180 : decode cL_law 180 = .ok (.aload_n 0, 1) := by decide +kernel
theorem dL_law_181 : decode cL_law 181 = .ok (.iload 4, 2) := by decide +kernel
theorem dL_law_183 : decode cL_law 183 = .ok (.iconst 2, 1) := by decide +kernel
theorem dL_law_184 : decode cL_law 184 = .ok (.iadd, 1) := by decide +kernel
theorem dL_law_185 : decode cL_law 185 = .ok (.iaload, 1) := by decide +kernel
theorem dL_law_186 : decode cL_law 186 = .ok (.aload_n 0, 1) := by decide +kernel
theorem dL_law_187 : decode cL_law 187 = .ok (.iload 4, 2) := by decide +kernel
theorem dL_law_189 : decode cL_law 189 = .ok (.iconst 3, 1) := by decide +kernel
theorem dL_law_190 : decode cL_law 190 = .ok (.iadd, 1) := by decide +kernel
theorem dL_law_191 : decode cL_law 191 = .ok (.iaload, 1) := by decide +kernel
theorem dL_law_192 : decode cL_law 192 = .ok (.aload_n 3, 1) := by decide +kernel
theorem dL_law_193 : decode cL_law 193 = .ok (.invokestatic 75, 3) := by decide +kernel
theorem dL_law_196 : decode cL_law 196 = .ok (.istore 5, 2) := by decide +kernel
theorem dL_law_198 : decode cL_law 198 = .ok (.aload_n 2, 1) := by decide +kernel
theorem dL_law_199 : decode cL_law 199 = .ok (.aload_n 0, 1) := by decide +kernel
theorem dL_law_200 : decode cL_law 200 = .ok (.iload 4, 2) := by decide +kernel
theorem dL_law_202 : decode cL_law 202 = .ok (.iconst 1, 1) := by decide +kernel
theorem dL_law_203 : decode cL_law 203 = .ok (.iadd, 1) := by decide +kernel
theorem dL_law_204 : decode cL_law 204 = .ok (.iaload, 1) := by decide +kernel
theorem dL_law_205 : decode cL_law 205 = .ok (.aload_n 0, 1) := by decide +kernel
theorem dL_law_206 : decode cL_law 206 = .ok (.iload 4, 2) := by decide +kernel
theorem dL_law_208 : decode cL_law 208 = .ok (.iconst 2, 1) := by decide +kernel
theorem dL_law_209 : decode cL_law 209 = .ok (.iadd, 1) := by decide +kernel
theorem dL_law_210 : decode cL_law 210 = .ok (.iaload, 1) := by decide +kernel
theorem dL_law_211 : decode cL_law 211 = .ok (.aload_n 0, 1) := by decide +kernel
theorem dL_law_212 : decode cL_law 212 = .ok (.iload 4, 2) := by decide +kernel
theorem dL_law_214 : decode cL_law 214 = .ok (.iconst 3, 1) := by decide +kernel
theorem dL_law_215 : decode cL_law 215 = .ok (.iadd, 1) := by decide +kernel
theorem dL_law_216 : decode cL_law 216 = .ok (.iaload, 1) := by decide +kernel
theorem dL_law_217 : decode cL_law 217 = .ok (.invokevirtual 78, 3) := by decide +kernel
theorem dL_law_220 : decode cL_law 220 = .ok (.istore 6, 2) := by decide +kernel
theorem dL_law_222 : decode cL_law 222 = .ok (.aload_n 2, 1) := by decide +kernel
theorem dL_law_223 : decode cL_law 223 = .ok (.invokevirtual 79, 3) := by decide +kernel
theorem dL_law_226 : decode cL_law 226 = .ok (.iload 5, 2) := by decide +kernel
theorem dL_law_228 : decode cL_law 228 = .ok (.if_icmp .eq 5, 3) := by decide +kernel
theorem dL_law_231 : decode cL_law 231 = .ok (.iconst 0, 1) := by decide +kernel
theorem dL_law_232 : decode cL_law 232 = .ok (.ireturn, 1) := by decide +kernel
theorem dL_law_233 : decode cL_law 233 = .ok (.iload 5, 2) := by decide +kernel
theorem dL_law_235 : decode cL_law 235 = .ok (.ifCond .ne 22, 3) := by decide +kernel
theorem dL_law_238 : decode cL_law 238 = .ok (.aload_n 3, 1) := by decide +kernel
theorem dL_law_239 : decode cL_law 239 = .ok (.iconst 0, 1) := by decide +kernel
theorem dL_law_240 : decode cL_law 240 = .ok (.laload, 1) := by decide +kernel
theorem dL_law_241 : decode cL_law 241 = .ok (.iload 6, 2) := by decide +kernel
theorem dL_law_243 : decode cL_law 243 = .ok (.ifCond .eq 7, 3) := by decide +kernel
theorem dL_law_246 : decode cL_law 246 = .ok (.lconst 1, 1) := by decide +kernel
theorem dL_law_247 : decode cL_law 247 = .ok (.goto 4, 3) := by decide +kernel
theorem dL_law_250 : decode cL_law 250 = .ok (.lconst 0, 1) := by decide +kernel
theorem dL_law_251 : decode cL_law 251 = .ok (.lcmp, 1) := by decide +kernel
theorem dL_law_252 : decode cL_law 252 = .ok (.ifCond .eq 5, 3) := by decide +kernel
theorem dL_law_255 : decode cL_law 255 = .ok (.iconst 0, 1) := by decide +kernel
theorem dL_law_256 : decode cL_law 256 = .ok (.ireturn, 1) := by decide +kernel
theorem dL_law_257 : decode cL_law 257 = .ok (.goto 890, 3) := by decide +kernel
theorem dL_law_260 : decode cL_law 260 = .ok (.aload_n 1, 1) := by decide +kernel
theorem dL_law_261 : decode cL_law 261 = .ok (.aload_n 0, 1) := by decide +kernel
theorem dL_law_262 : decode cL_law 262 = .ok (.iload 4, 2) := by decide +kernel
theorem dL_law_264 : decode cL_law 264 = .ok (.iconst 1, 1) := by decide +kernel
theorem dL_law_265 : decode cL_law 265 = .ok (.iadd, 1) := by decide +kernel
theorem dL_law_266 : decode cL_law 266 = .ok (.iaload, 1) := by decide +kernel
theorem dL_law_267 : decode cL_law 267 = .ok (.aload_n 0, 1) := by decide +kernel
theorem dL_law_268 : decode cL_law 268 = .ok (.iload 4, 2) := by decide +kernel
theorem dL_law_270 : decode cL_law 270 = .ok (.iconst 2, 1) := by decide +kernel
theorem dL_law_271 : decode cL_law 271 = .ok (.iadd, 1) := by decide +kernel
theorem dL_law_272 : decode cL_law 272 = .ok (.iaload, 1) := by decide +kernel
theorem dL_law_273 : decode cL_law 273 = .ok (.aload_n 0, 1) := by decide +kernel
theorem dL_law_274 : decode cL_law 274 = .ok (.iload 4, 2) := by decide +kernel
theorem dL_law_276 : decode cL_law 276 = .ok (.iconst 3, 1) := by decide +kernel
theorem dL_law_277 : decode cL_law 277 = .ok (.iadd, 1) := by decide +kernel
theorem dL_law_278 : decode cL_law 278 = .ok (.iaload, 1) := by decide +kernel
theorem dL_law_279 : decode cL_law 279 = .ok (.aload_n 3, 1) := by decide +kernel
theorem dL_law_280 : decode cL_law 280 = .ok (.invokestatic 82, 3) := by decide +kernel
theorem dL_law_283 : decode cL_law 283 = .ok (.istore 5, 2) := by decide +kernel
theorem dL_law_285 : decode cL_law 285 = .ok (.aload_n 2, 1) := by decide +kernel
theorem dL_law_286 : decode cL_law 286 = .ok (.aload_n 0, 1) := by decide +kernel
theorem dL_law_287 : decode cL_law 287 = .ok (.iload 4, 2) := by decide +kernel
theorem dL_law_289 : decode cL_law 289 = .ok (.iconst 1, 1) := by decide +kernel
theorem dL_law_290 : decode cL_law 290 = .ok (.iadd, 1) := by decide +kernel
theorem dL_law_291 : decode cL_law 291 = .ok (.iaload, 1) := by decide +kernel
theorem dL_law_292 : decode cL_law 292 = .ok (.aload_n 0, 1) := by decide +kernel
theorem dL_law_293 : decode cL_law 293 = .ok (.iload 4, 2) := by decide +kernel
theorem dL_law_295 : decode cL_law 295 = .ok (.iconst 2, 1) := by decide +kernel
theorem dL_law_296 : decode cL_law 296 = .ok (.iadd, 1) := by decide +kernel
theorem dL_law_297 : decode cL_law 297 = .ok (.iaload, 1) := by decide +kernel
theorem dL_law_298 : decode cL_law 298 = .ok (.aload_n 0, 1) := by decide +kernel
theorem dL_law_299 : decode cL_law 299 = .ok (.iload 4, 2) := by decide +kernel
theorem dL_law_301 : decode cL_law 301 = .ok (.iconst 3, 1) := by decide +kernel
theorem dL_law_302 : decode cL_law 302 = .ok (.iadd, 1) := by decide +kernel
theorem dL_law_303 : decode cL_law 303 = .ok (.iaload, 1) := by decide +kernel
theorem dL_law_304 : decode cL_law 304 = .ok (.invokevirtual 84, 3) := by decide +kernel
theorem dL_law_307 : decode cL_law 307 = .ok (.istore 6, 2) := by decide +kernel
theorem dL_law_309 : decode cL_law 309 = .ok (.aload_n 2, 1) := by decide +kernel
theorem dL_law_310 : decode cL_law 310 = .ok (.invokevirtual 79, 3) := by decide +kernel
theorem dL_law_313 : decode cL_law 313 = .ok (.iload 5, 2) := by decide +kernel
theorem dL_law_315 : decode cL_law 315 = .ok (.if_icmp .eq 5, 3) := by decide +kernel
theorem dL_law_318 : decode cL_law 318 = .ok (.iconst 0, 1) := by decide +kernel
theorem dL_law_319 : decode cL_law 319 = .ok (.ireturn, 1) := by decide +kernel
theorem dL_law_320 : decode cL_law 320 = .ok (.iload 5, 2) := by decide +kernel
theorem dL_law_322 : decode cL_law 322 = .ok (.ifCond .ne 22, 3) := by decide +kernel
theorem dL_law_325 : decode cL_law 325 = .ok (.aload_n 3, 1) := by decide +kernel
theorem dL_law_326 : decode cL_law 326 = .ok (.iconst 0, 1) := by decide +kernel
theorem dL_law_327 : decode cL_law 327 = .ok (.laload, 1) := by decide +kernel
theorem dL_law_328 : decode cL_law 328 = .ok (.iload 6, 2) := by decide +kernel
theorem dL_law_330 : decode cL_law 330 = .ok (.ifCond .eq 7, 3) := by decide +kernel
theorem dL_law_333 : decode cL_law 333 = .ok (.lconst 1, 1) := by decide +kernel
theorem dL_law_334 : decode cL_law 334 = .ok (.goto 4, 3) := by decide +kernel
theorem dL_law_337 : decode cL_law 337 = .ok (.lconst 0, 1) := by decide +kernel
theorem dL_law_338 : decode cL_law 338 = .ok (.lcmp, 1) := by decide +kernel
theorem dL_law_339 : decode cL_law 339 = .ok (.ifCond .eq 5, 3) := by decide +kernel
theorem dL_law_342 : decode cL_law 342 = .ok (.iconst 0, 1) := by decide +kernel
theorem dL_law_343 : decode cL_law 343 = .ok (.ireturn, 1) := by decide +kernel
theorem dL_law_344 : decode cL_law 344 = .ok (.goto 803, 3) := by decide +kernel
theorem dL_law_347 : decode cL_law 347 = .ok (.aload_n 1, 1) := by decide +kernel
theorem dL_law_348 : decode cL_law 348 = .ok (.aload_n 0, 1) := by decide +kernel
theorem dL_law_349 : decode cL_law 349 = .ok (.iload 4, 2) := by decide +kernel
theorem dL_law_351 : decode cL_law 351 = .ok (.iconst 1, 1) := by decide +kernel
theorem dL_law_352 : decode cL_law 352 = .ok (.iadd, 1) := by decide +kernel
theorem dL_law_353 : decode cL_law 353 = .ok (.iaload, 1) := by decide +kernel
theorem dL_law_354 : decode cL_law 354 = .ok (.aload_n 3, 1) := by decide +kernel
theorem dL_law_355 : decode cL_law 355 = .ok (.invokestatic 85, 3) := by decide +kernel
theorem dL_law_358 : decode cL_law 358 = .ok (.istore 5, 2) := by decide +kernel
theorem dL_law_360 : decode cL_law 360 = .ok (.aload_n 2, 1) := by decide +kernel
theorem dL_law_361 : decode cL_law 361 = .ok (.aload_n 0, 1) := by decide +kernel
theorem dL_law_362 : decode cL_law 362 = .ok (.iload 4, 2) := by decide +kernel
theorem dL_law_364 : decode cL_law 364 = .ok (.iconst 1, 1) := by decide +kernel
theorem dL_law_365 : decode cL_law 365 = .ok (.iadd, 1) := by decide +kernel
theorem dL_law_366 : decode cL_law 366 = .ok (.iaload, 1) := by decide +kernel
theorem dL_law_367 : decode cL_law 367 = .ok (.invokevirtual 88, 3) := by decide +kernel
theorem dL_law_370 : decode cL_law 370 = .ok (.istore 6, 2) := by decide +kernel
theorem dL_law_372 : decode cL_law 372 = .ok (.aload_n 2, 1) := by decide +kernel
theorem dL_law_373 : decode cL_law 373 = .ok (.invokevirtual 79, 3) := by decide +kernel
theorem dL_law_376 : decode cL_law 376 = .ok (.iload 5, 2) := by decide +kernel
theorem dL_law_378 : decode cL_law 378 = .ok (.if_icmp .eq 5, 3) := by decide +kernel
theorem dL_law_381 : decode cL_law 381 = .ok (.iconst 0, 1) := by decide +kernel
theorem dL_law_382 : decode cL_law 382 = .ok (.ireturn, 1) := by decide +kernel
theorem dL_law_383 : decode cL_law 383 = .ok (.iload 5, 2) := by decide +kernel
theorem dL_law_385 : decode cL_law 385 = .ok (.ifCond .ne 15, 3) := by decide +kernel
theorem dL_law_388 : decode cL_law 388 = .ok (.aload_n 3, 1) := by decide +kernel
theorem dL_law_389 : decode cL_law 389 = .ok (.iconst 0, 1) := by decide +kernel
theorem dL_law_390 : decode cL_law 390 = .ok (.laload, 1) := by decide +kernel
theorem dL_law_391 : decode cL_law 391 = .ok (.iload 6, 2) := by decide +kernel
theorem dL_law_393 : decode cL_law 393 = .ok (.i2l, 1) := by decide +kernel
theorem dL_law_394 : decode cL_law 394 = .ok (.lcmp, 1) := by decide +kernel
theorem dL_law_395 : decode cL_law 395 = .ok (.ifCond .eq 5, 3) := by decide +kernel
theorem dL_law_398 : decode cL_law 398 = .ok (.iconst 0, 1) := by decide +kernel
theorem dL_law_399 : decode cL_law 399 = .ok (.ireturn, 1) := by decide +kernel
theorem dL_law_400 : decode cL_law 400 = .ok (.goto 747, 3) := by decide +kernel
theorem dL_law_403 : decode cL_law 403 = .ok (.aload_n 1, 1) := by decide +kernel
theorem dL_law_404 : decode cL_law 404 = .ok (.aload_n 0, 1) := by decide +kernel
theorem dL_law_405 : decode cL_law 405 = .ok (.iload 4, 2) := by decide +kernel
theorem dL_law_407 : decode cL_law 407 = .ok (.iconst 1, 1) := by decide +kernel
theorem dL_law_408 : decode cL_law 408 = .ok (.iadd, 1) := by decide +kernel
theorem dL_law_409 : decode cL_law 409 = .ok (.iaload, 1) := by decide +kernel
theorem dL_law_410 : decode cL_law 410 = .ok (.aload_n 0, 1) := by decide +kernel
theorem dL_law_411 : decode cL_law 411 = .ok (.iload 4, 2) := by decide +kernel
theorem dL_law_413 : decode cL_law 413 = .ok (.iconst 2, 1) := by decide +kernel
theorem dL_law_414 : decode cL_law 414 = .ok (.iadd, 1) := by decide +kernel
theorem dL_law_415 : decode cL_law 415 = .ok (.iaload, 1) := by decide +kernel
theorem dL_law_416 : decode cL_law 416 = .ok (.ifCond .eq 7, 3) := by decide +kernel
theorem dL_law_419 : decode cL_law 419 = .ok (.iconst 1, 1) := by decide +kernel
theorem dL_law_420 : decode cL_law 420 = .ok (.goto 4, 3) := by decide +kernel
theorem dL_law_423 : decode cL_law 423 = .ok (.iconst 0, 1) := by decide +kernel
theorem dL_law_424 : decode cL_law 424 = .ok (.aload_n 3, 1) := by decide +kernel
theorem dL_law_425 : decode cL_law 425 = .ok (.invokestatic 89, 3) := by decide +kernel
theorem dL_law_428 : decode cL_law 428 = .ok (.istore 5, 2) := by decide +kernel
theorem dL_law_430 : decode cL_law 430 = .ok (.aload_n 2, 1) := by decide +kernel
theorem dL_law_431 : decode cL_law 431 = .ok (.aload_n 0, 1) := by decide +kernel
theorem dL_law_432 : decode cL_law 432 = .ok (.iload 4, 2) := by decide +kernel
theorem dL_law_434 : decode cL_law 434 = .ok (.iconst 1, 1) := by decide +kernel
theorem dL_law_435 : decode cL_law 435 = .ok (.iadd, 1) := by decide +kernel
theorem dL_law_436 : decode cL_law 436 = .ok (.iaload, 1) := by decide +kernel
theorem dL_law_437 : decode cL_law 437 = .ok (.aload_n 0, 1) := by decide +kernel
theorem dL_law_438 : decode cL_law 438 = .ok (.iload 4, 2) := by decide +kernel
theorem dL_law_440 : decode cL_law 440 = .ok (.iconst 2, 1) := by decide +kernel
theorem dL_law_441 : decode cL_law 441 = .ok (.iadd, 1) := by decide +kernel
theorem dL_law_442 : decode cL_law 442 = .ok (.iaload, 1) := by decide +kernel
theorem dL_law_443 : decode cL_law 443 = .ok (.ifCond .eq 7, 3) := by decide +kernel
theorem dL_law_446 : decode cL_law 446 = .ok (.iconst 1, 1) := by decide +kernel
theorem dL_law_447 : decode cL_law 447 = .ok (.goto 4, 3) := by decide +kernel
theorem dL_law_450 : decode cL_law 450 = .ok (.iconst 0, 1) := by decide +kernel
theorem dL_law_451 : decode cL_law 451 = .ok (.invokevirtual 92, 3) := by decide +kernel
theorem dL_law_454 : decode cL_law 454 = .ok (.istore 6, 2) := by decide +kernel
theorem dL_law_456 : decode cL_law 456 = .ok (.aload_n 2, 1) := by decide +kernel
theorem dL_law_457 : decode cL_law 457 = .ok (.invokevirtual 79, 3) := by decide +kernel
theorem dL_law_460 : decode cL_law 460 = .ok (.iload 5, 2) := by decide +kernel
theorem dL_law_462 : decode cL_law 462 = .ok (.if_icmp .eq 5, 3) := by decide +kernel
theorem dL_law_465 : decode cL_law 465 = .ok (.iconst 0, 1) := by decide +kernel
theorem dL_law_466 : decode cL_law 466 = .ok (.ireturn, 1) := by decide +kernel
theorem dL_law_467 : decode cL_law 467 = .ok (.iload 5, 2) := by decide +kernel
theorem dL_law_469 : decode cL_law 469 = .ok (.ifCond .ne 22, 3) := by decide +kernel
theorem dL_law_472 : decode cL_law 472 = .ok (.aload_n 3, 1) := by decide +kernel
theorem dL_law_473 : decode cL_law 473 = .ok (.iconst 0, 1) := by decide +kernel
theorem dL_law_474 : decode cL_law 474 = .ok (.laload, 1) := by decide +kernel
theorem dL_law_475 : decode cL_law 475 = .ok (.iload 6, 2) := by decide +kernel
theorem dL_law_477 : decode cL_law 477 = .ok (.ifCond .eq 7, 3) := by decide +kernel
theorem dL_law_480 : decode cL_law 480 = .ok (.lconst 1, 1) := by decide +kernel
theorem dL_law_481 : decode cL_law 481 = .ok (.goto 4, 3) := by decide +kernel
theorem dL_law_484 : decode cL_law 484 = .ok (.lconst 0, 1) := by decide +kernel
theorem dL_law_485 : decode cL_law 485 = .ok (.lcmp, 1) := by decide +kernel
theorem dL_law_486 : decode cL_law 486 = .ok (.ifCond .eq 5, 3) := by decide +kernel
theorem dL_law_489 : decode cL_law 489 = .ok (.iconst 0, 1) := by decide +kernel
theorem dL_law_490 : decode cL_law 490 = .ok (.ireturn, 1) := by decide +kernel
theorem dL_law_491 : decode cL_law 491 = .ok (.goto 656, 3) := by decide +kernel
theorem dL_law_494 : decode cL_law 494 = .ok (.aload_n 1, 1) := by decide +kernel
theorem dL_law_495 : decode cL_law 495 = .ok (.invokevirtual 93, 3) := by decide +kernel
theorem dL_law_498 : decode cL_law 498 = .ok (.aload_n 2, 1) := by decide +kernel
theorem dL_law_499 : decode cL_law 499 = .ok (.invokevirtual 96, 3) := by decide +kernel
theorem dL_law_502 : decode cL_law 502 = .ok (.if_icmp .eq 645, 3) := by decide +kernel
theorem dL_law_505 : decode cL_law 505 = .ok (.iconst 0, 1) := by decide +kernel
theorem dL_law_506 : decode cL_law 506 = .ok (.ireturn, 1) := by decide +kernel
theorem dL_law_507 : decode cL_law 507 = .ok (.aload_n 1, 1) := by decide +kernel
theorem dL_law_508 : decode cL_law 508 = .ok (.aload_n 0, 1) := by decide +kernel
theorem dL_law_509 : decode cL_law 509 = .ok (.iload 4, 2) := by decide +kernel
theorem dL_law_511 : decode cL_law 511 = .ok (.iconst 1, 1) := by decide +kernel
theorem dL_law_512 : decode cL_law 512 = .ok (.iadd, 1) := by decide +kernel
theorem dL_law_513 : decode cL_law 513 = .ok (.iaload, 1) := by decide +kernel
theorem dL_law_514 : decode cL_law 514 = .ok (.invokestatic 97, 3) := by decide +kernel
theorem dL_law_517 : decode cL_law 517 = .ok (.istore 5, 2) := by decide +kernel
theorem dL_law_519 : decode cL_law 519 = .ok (.aload_n 2, 1) := by decide +kernel
theorem dL_law_520 : decode cL_law 520 = .ok (.aload_n 0, 1) := by decide +kernel
theorem dL_law_521 : decode cL_law 521 = .ok (.iload 4, 2) := by decide +kernel
theorem dL_law_523 : decode cL_law 523 = .ok (.iconst 1, 1) := by decide +kernel
theorem dL_law_524 : decode cL_law 524 = .ok (.iadd, 1) := by decide +kernel
theorem dL_law_525 : decode cL_law 525 = .ok (.iaload, 1) := by decide +kernel
theorem dL_law_526 : decode cL_law 526 = .ok (.invokevirtual 100, 3) := by decide +kernel
theorem dL_law_529 : decode cL_law 529 = .ok (.aload_n 2, 1) := by decide +kernel
theorem dL_law_530 : decode cL_law 530 = .ok (.invokevirtual 79, 3) := by decide +kernel
theorem dL_law_533 : decode cL_law 533 = .ok (.iload 5, 2) := by decide +kernel
theorem dL_law_535 : decode cL_law 535 = .ok (.if_icmp .eq 5, 3) := by decide +kernel
theorem dL_law_538 : decode cL_law 538 = .ok (.iconst 0, 1) := by decide +kernel
theorem dL_law_539 : decode cL_law 539 = .ok (.ireturn, 1) := by decide +kernel
theorem dL_law_540 : decode cL_law 540 = .ok (.goto 607, 3) := by decide +kernel
theorem dL_law_543 : decode cL_law 543 = .ok (.aload_n 1, 1) := by decide +kernel
theorem dL_law_544 : decode cL_law 544 = .ok (.invokevirtual 101, 3) := by decide +kernel
theorem dL_law_547 : decode cL_law 547 = .ok (.aload_n 2, 1) := by decide +kernel
theorem dL_law_548 : decode cL_law 548 = .ok (.invokevirtual 104, 3) := by decide +kernel
theorem dL_law_551 : decode cL_law 551 = .ok (.if_icmp .eq 596, 3) := by decide +kernel
theorem dL_law_554 : decode cL_law 554 = .ok (.iconst 0, 1) := by decide +kernel
theorem dL_law_555 : decode cL_law 555 = .ok (.ireturn, 1) := by decide +kernel
theorem dL_law_556 : decode cL_law 556 = .ok (.aload_n 1, 1) := by decide +kernel
theorem dL_law_557 : decode cL_law 557 = .ok (.aload_n 0, 1) := by decide +kernel
theorem dL_law_558 : decode cL_law 558 = .ok (.iload 4, 2) := by decide +kernel
theorem dL_law_560 : decode cL_law 560 = .ok (.iconst 1, 1) := by decide +kernel
theorem dL_law_561 : decode cL_law 561 = .ok (.iadd, 1) := by decide +kernel
theorem dL_law_562 : decode cL_law 562 = .ok (.iaload, 1) := by decide +kernel
theorem dL_law_563 : decode cL_law 563 = .ok (.aload_n 3, 1) := by decide +kernel
theorem dL_law_564 : decode cL_law 564 = .ok (.invokestatic 105, 3) := by decide +kernel
theorem dL_law_567 : decode cL_law 567 = .ok (.istore 5, 2) := by decide +kernel
theorem dL_law_569 : decode cL_law 569 = .ok (.aload_n 2, 1) := by decide +kernel
theorem dL_law_570 : decode cL_law 570 = .ok (.aload_n 0, 1) := by decide +kernel
theorem dL_law_571 : decode cL_law 571 = .ok (.iload 4, 2) := by decide +kernel
theorem dL_law_573 : decode cL_law 573 = .ok (.iconst 1, 1) := by decide +kernel
theorem dL_law_574 : decode cL_law 574 = .ok (.iadd, 1) := by decide +kernel
theorem dL_law_575 : decode cL_law 575 = .ok (.iaload, 1) := by decide +kernel
theorem dL_law_576 : decode cL_law 576 = .ok (.invokevirtual 107, 3) := by decide +kernel
theorem dL_law_579 : decode cL_law 579 = .ok (.istore 6, 2) := by decide +kernel
theorem dL_law_581 : decode cL_law 581 = .ok (.aload_n 2, 1) := by decide +kernel
theorem dL_law_582 : decode cL_law 582 = .ok (.invokevirtual 79, 3) := by decide +kernel
theorem dL_law_585 : decode cL_law 585 = .ok (.iload 5, 2) := by decide +kernel
theorem dL_law_587 : decode cL_law 587 = .ok (.if_icmp .eq 5, 3) := by decide +kernel
theorem dL_law_590 : decode cL_law 590 = .ok (.iconst 0, 1) := by decide +kernel
theorem dL_law_591 : decode cL_law 591 = .ok (.ireturn, 1) := by decide +kernel
theorem dL_law_592 : decode cL_law 592 = .ok (.iload 5, 2) := by decide +kernel
theorem dL_law_594 : decode cL_law 594 = .ok (.ifCond .ne 15, 3) := by decide +kernel
theorem dL_law_597 : decode cL_law 597 = .ok (.aload_n 3, 1) := by decide +kernel
theorem dL_law_598 : decode cL_law 598 = .ok (.iconst 0, 1) := by decide +kernel
theorem dL_law_599 : decode cL_law 599 = .ok (.laload, 1) := by decide +kernel
theorem dL_law_600 : decode cL_law 600 = .ok (.iload 6, 2) := by decide +kernel
theorem dL_law_602 : decode cL_law 602 = .ok (.i2l, 1) := by decide +kernel
theorem dL_law_603 : decode cL_law 603 = .ok (.lcmp, 1) := by decide +kernel
theorem dL_law_604 : decode cL_law 604 = .ok (.ifCond .eq 5, 3) := by decide +kernel
theorem dL_law_607 : decode cL_law 607 = .ok (.iconst 0, 1) := by decide +kernel
theorem dL_law_608 : decode cL_law 608 = .ok (.ireturn, 1) := by decide +kernel
theorem dL_law_609 : decode cL_law 609 = .ok (.goto 538, 3) := by decide +kernel
theorem dL_law_612 : decode cL_law 612 = .ok (.aload_n 1, 1) := by decide +kernel
theorem dL_law_613 : decode cL_law 613 = .ok (.aload_n 0, 1) := by decide +kernel
theorem dL_law_614 : decode cL_law 614 = .ok (.iload 4, 2) := by decide +kernel
theorem dL_law_616 : decode cL_law 616 = .ok (.iconst 1, 1) := by decide +kernel
theorem dL_law_617 : decode cL_law 617 = .ok (.iadd, 1) := by decide +kernel
theorem dL_law_618 : decode cL_law 618 = .ok (.iaload, 1) := by decide +kernel
theorem dL_law_619 : decode cL_law 619 = .ok (.aload_n 3, 1) := by decide +kernel
theorem dL_law_620 : decode cL_law 620 = .ok (.invokestatic 108, 3) := by decide +kernel
theorem dL_law_623 : decode cL_law 623 = .ok (.istore 5, 2) := by decide +kernel
theorem dL_law_625 : decode cL_law 625 = .ok (.aload_n 2, 1) := by decide +kernel
theorem dL_law_626 : decode cL_law 626 = .ok (.aload_n 0, 1) := by decide +kernel
theorem dL_law_627 : decode cL_law 627 = .ok (.iload 4, 2) := by decide +kernel
theorem dL_law_629 : decode cL_law 629 = .ok (.iconst 1, 1) := by decide +kernel
theorem dL_law_630 : decode cL_law 630 = .ok (.iadd, 1) := by decide +kernel
theorem dL_law_631 : decode cL_law 631 = .ok (.iaload, 1) := by decide +kernel
theorem dL_law_632 : decode cL_law 632 = .ok (.invokevirtual 110, 3) := by decide +kernel
theorem dL_law_635 : decode cL_law 635 = .ok (.istore 6, 2) := by decide +kernel
theorem dL_law_637 : decode cL_law 637 = .ok (.aload_n 2, 1) := by decide +kernel
theorem dL_law_638 : decode cL_law 638 = .ok (.invokevirtual 79, 3) := by decide +kernel
theorem dL_law_641 : decode cL_law 641 = .ok (.iload 5, 2) := by decide +kernel
theorem dL_law_643 : decode cL_law 643 = .ok (.if_icmp .eq 5, 3) := by decide +kernel
theorem dL_law_646 : decode cL_law 646 = .ok (.iconst 0, 1) := by decide +kernel
theorem dL_law_647 : decode cL_law 647 = .ok (.ireturn, 1) := by decide +kernel
theorem dL_law_648 : decode cL_law 648 = .ok (.iload 5, 2) := by decide +kernel
theorem dL_law_650 : decode cL_law 650 = .ok (.ifCond .ne 15, 3) := by decide +kernel
theorem dL_law_653 : decode cL_law 653 = .ok (.aload_n 3, 1) := by decide +kernel
theorem dL_law_654 : decode cL_law 654 = .ok (.iconst 0, 1) := by decide +kernel
theorem dL_law_655 : decode cL_law 655 = .ok (.laload, 1) := by decide +kernel
theorem dL_law_656 : decode cL_law 656 = .ok (.iload 6, 2) := by decide +kernel
theorem dL_law_658 : decode cL_law 658 = .ok (.i2l, 1) := by decide +kernel
theorem dL_law_659 : decode cL_law 659 = .ok (.lcmp, 1) := by decide +kernel
theorem dL_law_660 : decode cL_law 660 = .ok (.ifCond .eq 5, 3) := by decide +kernel
theorem dL_law_663 : decode cL_law 663 = .ok (.iconst 0, 1) := by decide +kernel
theorem dL_law_664 : decode cL_law 664 = .ok (.ireturn, 1) := by decide +kernel
theorem dL_law_665 : decode cL_law 665 = .ok (.goto 482, 3) := by decide +kernel
theorem dL_law_668 : decode cL_law 668 = .ok (.aload_n 1, 1) := by decide +kernel
theorem dL_law_669 : decode cL_law 669 = .ok (.aload_n 0, 1) := by decide +kernel
theorem dL_law_670 : decode cL_law 670 = .ok (.iload 4, 2) := by decide +kernel
theorem dL_law_672 : decode cL_law 672 = .ok (.iconst 1, 1) := by decide +kernel
theorem dL_law_673 : decode cL_law 673 = .ok (.iadd, 1) := by decide +kernel
theorem dL_law_674 : decode cL_law 674 = .ok (.iaload, 1) := by decide +kernel
theorem dL_law_675 : decode cL_law 675 = .ok (.invokestatic 111, 3) := by decide +kernel
theorem dL_law_678 : decode cL_law 678 = .ok (.istore 5, 2) := by decide +kernel
theorem dL_law_680 : decode cL_law 680 = .ok (.aload_n 2, 1) := by decide +kernel
theorem dL_law_681 : decode cL_law 681 = .ok (.aload_n 0, 1) := by decide +kernel
theorem dL_law_682 : decode cL_law 682 = .ok (.iload 4, 2) := by decide +kernel
theorem dL_law_684 : decode cL_law 684 = .ok (.iconst 1, 1) := by decide +kernel
theorem dL_law_685 : decode cL_law 685 = .ok (.iadd, 1) := by decide +kernel
theorem dL_law_686 : decode cL_law 686 = .ok (.iaload, 1) := by decide +kernel
theorem dL_law_687 : decode cL_law 687 = .ok (.invokevirtual 113, 3) := by decide +kernel
theorem dL_law_690 : decode cL_law 690 = .ok (.aload_n 2, 1) := by decide +kernel
theorem dL_law_691 : decode cL_law 691 = .ok (.invokevirtual 79, 3) := by decide +kernel
theorem dL_law_694 : decode cL_law 694 = .ok (.iload 5, 2) := by decide +kernel
theorem dL_law_696 : decode cL_law 696 = .ok (.if_icmp .eq 5, 3) := by decide +kernel
theorem dL_law_699 : decode cL_law 699 = .ok (.iconst 0, 1) := by decide +kernel
theorem dL_law_700 : decode cL_law 700 = .ok (.ireturn, 1) := by decide +kernel
theorem dL_law_701 : decode cL_law 701 = .ok (.goto 446, 3) := by decide +kernel
theorem dL_law_704 : decode cL_law 704 = .ok (.aload_n 1, 1) := by decide +kernel
theorem dL_law_705 : decode cL_law 705 = .ok (.aload_n 0, 1) := by decide +kernel
theorem dL_law_706 : decode cL_law 706 = .ok (.iload 4, 2) := by decide +kernel
theorem dL_law_708 : decode cL_law 708 = .ok (.iconst 1, 1) := by decide +kernel
theorem dL_law_709 : decode cL_law 709 = .ok (.iadd, 1) := by decide +kernel
theorem dL_law_710 : decode cL_law 710 = .ok (.iaload, 1) := by decide +kernel
theorem dL_law_711 : decode cL_law 711 = .ok (.invokevirtual 114, 3) := by decide +kernel
theorem dL_law_714 : decode cL_law 714 = .ok (.aload_n 2, 1) := by decide +kernel
theorem dL_law_715 : decode cL_law 715 = .ok (.aload_n 0, 1) := by decide +kernel
theorem dL_law_716 : decode cL_law 716 = .ok (.iload 4, 2) := by decide +kernel
theorem dL_law_718 : decode cL_law 718 = .ok (.iconst 1, 1) := by decide +kernel
theorem dL_law_719 : decode cL_law 719 = .ok (.iadd, 1) := by decide +kernel
theorem dL_law_720 : decode cL_law 720 = .ok (.iaload, 1) := by decide +kernel
theorem dL_law_721 : decode cL_law 721 = .ok (.invokevirtual 117, 3) := by decide +kernel
theorem dL_law_724 : decode cL_law 724 = .ok (.if_icmp .eq 423, 3) := by decide +kernel
theorem dL_law_727 : decode cL_law 727 = .ok (.iconst 0, 1) := by decide +kernel
theorem dL_law_728 : decode cL_law 728 = .ok (.ireturn, 1) := by decide +kernel
theorem dL_law_729 : decode cL_law 729 = .ok (.aload_n 1, 1) := by decide +kernel
theorem dL_law_730 : decode cL_law 730 = .ok (.aload_n 0, 1) := by decide +kernel
theorem dL_law_731 : decode cL_law 731 = .ok (.iload 4, 2) := by decide +kernel
theorem dL_law_733 : decode cL_law 733 = .ok (.iconst 1, 1) := by decide +kernel
theorem dL_law_734 : decode cL_law 734 = .ok (.iadd, 1) := by decide +kernel
theorem dL_law_735 : decode cL_law 735 = .ok (.iaload, 1) := by decide +kernel
theorem dL_law_736 : decode cL_law 736 = .ok (.aload_n 3, 1) := by decide +kernel
theorem dL_law_737 : decode cL_law 737 = .ok (.invokestatic 118, 3) := by decide +kernel
theorem dL_law_740 : decode cL_law 740 = .ok (.istore 5, 2) := by decide +kernel
theorem dL_law_742 : decode cL_law 742 = .ok (.aload_n 2, 1) := by decide +kernel
theorem dL_law_743 : decode cL_law 743 = .ok (.aload_n 0, 1) := by decide +kernel
theorem dL_law_744 : decode cL_law 744 = .ok (.iload 4, 2) := by decide +kernel
theorem dL_law_746 : decode cL_law 746 = .ok (.iconst 1, 1) := by decide +kernel
theorem dL_law_747 : decode cL_law 747 = .ok (.iadd, 1) := by decide +kernel
theorem dL_law_748 : decode cL_law 748 = .ok (.iaload, 1) := by decide +kernel
theorem dL_law_749 : decode cL_law 749 = .ok (.invokevirtual 120, 3) := by decide +kernel
theorem dL_law_752 : decode cL_law 752 = .ok (.istore 6, 2) := by decide +kernel
theorem dL_law_754 : decode cL_law 754 = .ok (.aload_n 2, 1) := by decide +kernel
theorem dL_law_755 : decode cL_law 755 = .ok (.invokevirtual 79, 3) := by decide +kernel
theorem dL_law_758 : decode cL_law 758 = .ok (.iload 5, 2) := by decide +kernel
theorem dL_law_760 : decode cL_law 760 = .ok (.if_icmp .eq 5, 3) := by decide +kernel
theorem dL_law_763 : decode cL_law 763 = .ok (.iconst 0, 1) := by decide +kernel
theorem dL_law_764 : decode cL_law 764 = .ok (.ireturn, 1) := by decide +kernel
theorem dL_law_765 : decode cL_law 765 = .ok (.iload 5, 2) := by decide +kernel
theorem dL_law_767 : decode cL_law 767 = .ok (.ifCond .ne 15, 3) := by decide +kernel
theorem dL_law_770 : decode cL_law 770 = .ok (.aload_n 3, 1) := by decide +kernel
theorem dL_law_771 : decode cL_law 771 = .ok (.iconst 0, 1) := by decide +kernel
theorem dL_law_772 : decode cL_law 772 = .ok (.laload, 1) := by decide +kernel
theorem dL_law_773 : decode cL_law 773 = .ok (.iload 6, 2) := by decide +kernel
theorem dL_law_775 : decode cL_law 775 = .ok (.i2l, 1) := by decide +kernel
theorem dL_law_776 : decode cL_law 776 = .ok (.lcmp, 1) := by decide +kernel
theorem dL_law_777 : decode cL_law 777 = .ok (.ifCond .eq 5, 3) := by decide +kernel
theorem dL_law_780 : decode cL_law 780 = .ok (.iconst 0, 1) := by decide +kernel
theorem dL_law_781 : decode cL_law 781 = .ok (.ireturn, 1) := by decide +kernel
theorem dL_law_782 : decode cL_law 782 = .ok (.goto 365, 3) := by decide +kernel
theorem dL_law_785 : decode cL_law 785 = .ok (.aload_n 1, 1) := by decide +kernel
theorem dL_law_786 : decode cL_law 786 = .ok (.aload_n 0, 1) := by decide +kernel
theorem dL_law_787 : decode cL_law 787 = .ok (.iload 4, 2) := by decide +kernel
theorem dL_law_789 : decode cL_law 789 = .ok (.iconst 1, 1) := by decide +kernel
theorem dL_law_790 : decode cL_law 790 = .ok (.iadd, 1) := by decide +kernel
theorem dL_law_791 : decode cL_law 791 = .ok (.iaload, 1) := by decide +kernel
theorem dL_law_792 : decode cL_law 792 = .ok (.invokevirtual 121, 3) := by decide +kernel
theorem dL_law_795 : decode cL_law 795 = .ok (.aload_n 2, 1) := by decide +kernel
theorem dL_law_796 : decode cL_law 796 = .ok (.aload_n 0, 1) := by decide +kernel
theorem dL_law_797 : decode cL_law 797 = .ok (.iload 4, 2) := by decide +kernel
theorem dL_law_799 : decode cL_law 799 = .ok (.iconst 1, 1) := by decide +kernel
theorem dL_law_800 : decode cL_law 800 = .ok (.iadd, 1) := by decide +kernel
theorem dL_law_801 : decode cL_law 801 = .ok (.iaload, 1) := by decide +kernel
theorem dL_law_802 : decode cL_law 802 = .ok (.invokevirtual 124, 3) := by decide +kernel
theorem dL_law_805 : decode cL_law 805 = .ok (.if_icmp .eq 342, 3) := by decide +kernel
theorem dL_law_808 : decode cL_law 808 = .ok (.iconst 0, 1) := by decide +kernel
theorem dL_law_809 : decode cL_law 809 = .ok (.ireturn, 1) := by decide +kernel
theorem dL_law_810 : decode cL_law 810 = .ok (.aload_n 1, 1) := by decide +kernel
theorem dL_law_811 : decode cL_law 811 = .ok (.aload_n 0, 1) := by decide +kernel
theorem dL_law_812 : decode cL_law 812 = .ok (.iload 4, 2) := by decide +kernel
theorem dL_law_814 : decode cL_law 814 = .ok (.iconst 1, 1) := by decide +kernel
theorem dL_law_815 : decode cL_law 815 = .ok (.iadd, 1) := by decide +kernel
theorem dL_law_816 : decode cL_law 816 = .ok (.iaload, 1) := by decide +kernel
theorem dL_law_817 : decode cL_law 817 = .ok (.aload_n 0, 1) := by decide +kernel
theorem dL_law_818 : decode cL_law 818 = .ok (.iload 4, 2) := by decide +kernel
theorem dL_law_820 : decode cL_law 820 = .ok (.iconst 2, 1) := by decide +kernel
theorem dL_law_821 : decode cL_law 821 = .ok (.iadd, 1) := by decide +kernel
theorem dL_law_822 : decode cL_law 822 = .ok (.iaload, 1) := by decide +kernel
theorem dL_law_823 : decode cL_law 823 = .ok (.aload_n 3, 1) := by decide +kernel
theorem dL_law_824 : decode cL_law 824 = .ok (.invokestatic 125, 3) := by decide +kernel
theorem dL_law_827 : decode cL_law 827 = .ok (.istore 5, 2) := by decide +kernel
theorem dL_law_829 : decode cL_law 829 = .ok (.aload_n 2, 1) := by decide +kernel
theorem dL_law_830 : decode cL_law 830 = .ok (.aload_n 0, 1) := by decide +kernel
theorem dL_law_831 : decode cL_law 831 = .ok (.iload 4, 2) := by decide +kernel
theorem dL_law_833 : decode cL_law 833 = .ok (.iconst 1, 1) := by decide +kernel
theorem dL_law_834 : decode cL_law 834 = .ok (.iadd, 1) := by decide +kernel
theorem dL_law_835 : decode cL_law 835 = .ok (.iaload, 1) := by decide +kernel
theorem dL_law_836 : decode cL_law 836 = .ok (.aload_n 0, 1) := by decide +kernel
theorem dL_law_837 : decode cL_law 837 = .ok (.iload 4, 2) := by decide +kernel
theorem dL_law_839 : decode cL_law 839 = .ok (.iconst 2, 1) := by decide +kernel
theorem dL_law_840 : decode cL_law 840 = .ok (.iadd, 1) := by decide +kernel
theorem dL_law_841 : decode cL_law 841 = .ok (.iaload, 1) := by decide +kernel
theorem dL_law_842 : decode cL_law 842 = .ok (.invokevirtual 128, 3) := by decide +kernel
theorem dL_law_845 : decode cL_law 845 = .ok (.lstore 6, 2) := by decide +kernel
theorem dL_law_847 : decode cL_law 847 = .ok (.aload_n 2, 1) := by decide +kernel
theorem dL_law_848 : decode cL_law 848 = .ok (.invokevirtual 79, 3) := by decide +kernel
theorem dL_law_851 : decode cL_law 851 = .ok (.iload 5, 2) := by decide +kernel
theorem dL_law_853 : decode cL_law 853 = .ok (.if_icmp .eq 5, 3) := by decide +kernel
theorem dL_law_856 : decode cL_law 856 = .ok (.iconst 0, 1) := by decide +kernel
theorem dL_law_857 : decode cL_law 857 = .ok (.ireturn, 1) := by decide +kernel
theorem dL_law_858 : decode cL_law 858 = .ok (.iload 5, 2) := by decide +kernel
theorem dL_law_860 : decode cL_law 860 = .ok (.ifCond .ne 14, 3) := by decide +kernel
theorem dL_law_863 : decode cL_law 863 = .ok (.aload_n 3, 1) := by decide +kernel
theorem dL_law_864 : decode cL_law 864 = .ok (.iconst 0, 1) := by decide +kernel
theorem dL_law_865 : decode cL_law 865 = .ok (.laload, 1) := by decide +kernel
theorem dL_law_866 : decode cL_law 866 = .ok (.lload 6, 2) := by decide +kernel
theorem dL_law_868 : decode cL_law 868 = .ok (.lcmp, 1) := by decide +kernel
theorem dL_law_869 : decode cL_law 869 = .ok (.ifCond .eq 5, 3) := by decide +kernel
theorem dL_law_872 : decode cL_law 872 = .ok (.iconst 0, 1) := by decide +kernel
theorem dL_law_873 : decode cL_law 873 = .ok (.ireturn, 1) := by decide +kernel
theorem dL_law_874 : decode cL_law 874 = .ok (.goto 273, 3) := by decide +kernel
theorem dL_law_877 : decode cL_law 877 = .ok (.aload_n 1, 1) := by decide +kernel
theorem dL_law_878 : decode cL_law 878 = .ok (.invokevirtual 129, 3) := by decide +kernel
theorem dL_law_881 : decode cL_law 881 = .ok (.aload_n 2, 1) := by decide +kernel
theorem dL_law_882 : decode cL_law 882 = .ok (.invokevirtual 132, 3) := by decide +kernel
theorem dL_law_885 : decode cL_law 885 = .ok (.if_icmp .eq 262, 3) := by decide +kernel
theorem dL_law_888 : decode cL_law 888 = .ok (.iconst 0, 1) := by decide +kernel
theorem dL_law_889 : decode cL_law 889 = .ok (.ireturn, 1) := by decide +kernel
theorem dL_law_890 : decode cL_law 890 = .ok (.aload_n 1, 1) := by decide +kernel
theorem dL_law_891 : decode cL_law 891 = .ok (.invokevirtual 133, 3) := by decide +kernel
theorem dL_law_894 : decode cL_law 894 = .ok (.aload_n 2, 1) := by decide +kernel
theorem dL_law_895 : decode cL_law 895 = .ok (.invokevirtual 136, 3) := by decide +kernel
theorem dL_law_898 : decode cL_law 898 = .ok (.if_icmp .eq 249, 3) := by decide +kernel
theorem dL_law_901 : decode cL_law 901 = .ok (.iconst 0, 1) := by decide +kernel
theorem dL_law_902 : decode cL_law 902 = .ok (.ireturn, 1) := by decide +kernel
theorem dL_law_903 : decode cL_law 903 = .ok (.aload_n 1, 1) := by decide +kernel
theorem dL_law_904 : decode cL_law 904 = .ok (.aload_n 0, 1) := by decide +kernel
theorem dL_law_905 : decode cL_law 905 = .ok (.iload 4, 2) := by decide +kernel
theorem dL_law_907 : decode cL_law 907 = .ok (.iconst 1, 1) := by decide +kernel
theorem dL_law_908 : decode cL_law 908 = .ok (.iadd, 1) := by decide +kernel
theorem dL_law_909 : decode cL_law 909 = .ok (.iaload, 1) := by decide +kernel
theorem dL_law_910 : decode cL_law 910 = .ok (.aload_n 0, 1) := by decide +kernel
theorem dL_law_911 : decode cL_law 911 = .ok (.iload 4, 2) := by decide +kernel
theorem dL_law_913 : decode cL_law 913 = .ok (.iconst 2, 1) := by decide +kernel
theorem dL_law_914 : decode cL_law 914 = .ok (.iadd, 1) := by decide +kernel
theorem dL_law_915 : decode cL_law 915 = .ok (.iaload, 1) := by decide +kernel
theorem dL_law_916 : decode cL_law 916 = .ok (.aload_n 0, 1) := by decide +kernel
theorem dL_law_917 : decode cL_law 917 = .ok (.iload 4, 2) := by decide +kernel
theorem dL_law_919 : decode cL_law 919 = .ok (.iconst 3, 1) := by decide +kernel
theorem dL_law_920 : decode cL_law 920 = .ok (.iadd, 1) := by decide +kernel
theorem dL_law_921 : decode cL_law 921 = .ok (.iaload, 1) := by decide +kernel
theorem dL_law_922 : decode cL_law 922 = .ok (.aload_n 3, 1) := by decide +kernel
theorem dL_law_923 : decode cL_law 923 = .ok (.invokestatic 137, 3) := by decide +kernel
theorem dL_law_926 : decode cL_law 926 = .ok (.istore 5, 2) := by decide +kernel
theorem dL_law_928 : decode cL_law 928 = .ok (.aload_n 2, 1) := by decide +kernel
theorem dL_law_929 : decode cL_law 929 = .ok (.aload_n 0, 1) := by decide +kernel
theorem dL_law_930 : decode cL_law 930 = .ok (.iload 4, 2) := by decide +kernel
theorem dL_law_932 : decode cL_law 932 = .ok (.iconst 1, 1) := by decide +kernel
theorem dL_law_933 : decode cL_law 933 = .ok (.iadd, 1) := by decide +kernel
theorem dL_law_934 : decode cL_law 934 = .ok (.iaload, 1) := by decide +kernel
theorem dL_law_935 : decode cL_law 935 = .ok (.aload_n 0, 1) := by decide +kernel
theorem dL_law_936 : decode cL_law 936 = .ok (.iload 4, 2) := by decide +kernel
theorem dL_law_938 : decode cL_law 938 = .ok (.iconst 2, 1) := by decide +kernel
theorem dL_law_939 : decode cL_law 939 = .ok (.iadd, 1) := by decide +kernel
theorem dL_law_940 : decode cL_law 940 = .ok (.iaload, 1) := by decide +kernel
theorem dL_law_941 : decode cL_law 941 = .ok (.aload_n 0, 1) := by decide +kernel
theorem dL_law_942 : decode cL_law 942 = .ok (.iload 4, 2) := by decide +kernel
theorem dL_law_944 : decode cL_law 944 = .ok (.iconst 3, 1) := by decide +kernel
theorem dL_law_945 : decode cL_law 945 = .ok (.iadd, 1) := by decide +kernel
theorem dL_law_946 : decode cL_law 946 = .ok (.iaload, 1) := by decide +kernel
theorem dL_law_947 : decode cL_law 947 = .ok (.invokevirtual 139, 3) := by decide +kernel
theorem dL_law_950 : decode cL_law 950 = .ok (.istore 6, 2) := by decide +kernel
theorem dL_law_952 : decode cL_law 952 = .ok (.aload_n 2, 1) := by decide +kernel
theorem dL_law_953 : decode cL_law 953 = .ok (.invokevirtual 79, 3) := by decide +kernel
theorem dL_law_956 : decode cL_law 956 = .ok (.iload 5, 2) := by decide +kernel
theorem dL_law_958 : decode cL_law 958 = .ok (.if_icmp .eq 5, 3) := by decide +kernel
theorem dL_law_961 : decode cL_law 961 = .ok (.iconst 0, 1) := by decide +kernel
theorem dL_law_962 : decode cL_law 962 = .ok (.ireturn, 1) := by decide +kernel
theorem dL_law_963 : decode cL_law 963 = .ok (.iload 5, 2) := by decide +kernel
theorem dL_law_965 : decode cL_law 965 = .ok (.ifCond .ne 22, 3) := by decide +kernel
theorem dL_law_968 : decode cL_law 968 = .ok (.aload_n 3, 1) := by decide +kernel
theorem dL_law_969 : decode cL_law 969 = .ok (.iconst 0, 1) := by decide +kernel
theorem dL_law_970 : decode cL_law 970 = .ok (.laload, 1) := by decide +kernel
theorem dL_law_971 : decode cL_law 971 = .ok (.iload 6, 2) := by decide +kernel
theorem dL_law_973 : decode cL_law 973 = .ok (.ifCond .eq 7, 3) := by decide +kernel
theorem dL_law_976 : decode cL_law 976 = .ok (.lconst 1, 1) := by decide +kernel
theorem dL_law_977 : decode cL_law 977 = .ok (.goto 4, 3) := by decide +kernel
theorem dL_law_980 : decode cL_law 980 = .ok (.lconst 0, 1) := by decide +kernel
theorem dL_law_981 : decode cL_law 981 = .ok (.lcmp, 1) := by decide +kernel
theorem dL_law_982 : decode cL_law 982 = .ok (.ifCond .eq 5, 3) := by decide +kernel
theorem dL_law_985 : decode cL_law 985 = .ok (.iconst 0, 1) := by decide +kernel
theorem dL_law_986 : decode cL_law 986 = .ok (.ireturn, 1) := by decide +kernel
theorem dL_law_987 : decode cL_law 987 = .ok (.goto 160, 3) := by decide +kernel
theorem dL_law_990 : decode cL_law 990 = .ok (.aload_n 1, 1) := by decide +kernel
theorem dL_law_991 : decode cL_law 991 = .ok (.aload_n 0, 1) := by decide +kernel
theorem dL_law_992 : decode cL_law 992 = .ok (.iload 4, 2) := by decide +kernel
theorem dL_law_994 : decode cL_law 994 = .ok (.iconst 1, 1) := by decide +kernel
theorem dL_law_995 : decode cL_law 995 = .ok (.iadd, 1) := by decide +kernel
theorem dL_law_996 : decode cL_law 996 = .ok (.iaload, 1) := by decide +kernel
theorem dL_law_997 : decode cL_law 997 = .ok (.aload_n 3, 1) := by decide +kernel
theorem dL_law_998 : decode cL_law 998 = .ok (.invokestatic 140, 3) := by decide +kernel
theorem dL_law_1001 : decode cL_law 1001 = .ok (.istore 5, 2) := by decide +kernel
theorem dL_law_1003 : decode cL_law 1003 = .ok (.aload_n 2, 1) := by decide +kernel
theorem dL_law_1004 : decode cL_law 1004 = .ok (.aload_n 0, 1) := by decide +kernel
theorem dL_law_1005 : decode cL_law 1005 = .ok (.iload 4, 2) := by decide +kernel
theorem dL_law_1007 : decode cL_law 1007 = .ok (.iconst 1, 1) := by decide +kernel
theorem dL_law_1008 : decode cL_law 1008 = .ok (.iadd, 1) := by decide +kernel
theorem dL_law_1009 : decode cL_law 1009 = .ok (.iaload, 1) := by decide +kernel
theorem dL_law_1010 : decode cL_law 1010 = .ok (.invokevirtual 142, 3) := by decide +kernel
theorem dL_law_1013 : decode cL_law 1013 = .ok (.istore 6, 2) := by decide +kernel
theorem dL_law_1015 : decode cL_law 1015 = .ok (.aload_n 2, 1) := by decide +kernel
theorem dL_law_1016 : decode cL_law 1016 = .ok (.invokevirtual 79, 3) := by decide +kernel
theorem dL_law_1019 : decode cL_law 1019 = .ok (.iload 5, 2) := by decide +kernel
theorem dL_law_1021 : decode cL_law 1021 = .ok (.if_icmp .eq 5, 3) := by decide +kernel
theorem dL_law_1024 : decode cL_law 1024 = .ok (.iconst 0, 1) := by decide +kernel
theorem dL_law_1025 : decode cL_law 1025 = .ok (.ireturn, 1) := by decide +kernel
theorem dL_law_1026 : decode cL_law 1026 = .ok (.iload 5, 2) := by decide +kernel
theorem dL_law_1028 : decode cL_law 1028 = .ok (.ifCond .ne 22, 3) := by decide +kernel
theorem dL_law_1031 : decode cL_law 1031 = .ok (.aload_n 3, 1) := by decide +kernel
theorem dL_law_1032 : decode cL_law 1032 = .ok (.iconst 0, 1) := by decide +kernel
theorem dL_law_1033 : decode cL_law 1033 = .ok (.laload, 1) := by decide +kernel
theorem dL_law_1034 : decode cL_law 1034 = .ok (.iload 6, 2) := by decide +kernel
theorem dL_law_1036 : decode cL_law 1036 = .ok (.ifCond .eq 7, 3) := by decide +kernel
theorem dL_law_1039 : decode cL_law 1039 = .ok (.lconst 1, 1) := by decide +kernel
theorem dL_law_1040 : decode cL_law 1040 = .ok (.goto 4, 3) := by decide +kernel
theorem dL_law_1043 : decode cL_law 1043 = .ok (.lconst 0, 1) := by decide +kernel
theorem dL_law_1044 : decode cL_law 1044 = .ok (.lcmp, 1) := by decide +kernel
theorem dL_law_1045 : decode cL_law 1045 = .ok (.ifCond .eq 5, 3) := by decide +kernel
theorem dL_law_1048 : decode cL_law 1048 = .ok (.iconst 0, 1) := by decide +kernel
theorem dL_law_1049 : decode cL_law 1049 = .ok (.ireturn, 1) := by decide +kernel
theorem dL_law_1050 : decode cL_law 1050 = .ok (.goto 97, 3) := by decide +kernel
theorem dL_law_1053 : decode cL_law 1053 = .ok (.aload_n 1, 1) := by decide +kernel
theorem dL_law_1054 : decode cL_law 1054 = .ok (.aload_n 0, 1) := by decide +kernel
theorem dL_law_1055 : decode cL_law 1055 = .ok (.iload 4, 2) := by decide +kernel
theorem dL_law_1057 : decode cL_law 1057 = .ok (.iconst 1, 1) := by decide +kernel
theorem dL_law_1058 : decode cL_law 1058 = .ok (.iadd, 1) := by decide +kernel
theorem dL_law_1059 : decode cL_law 1059 = .ok (.iaload, 1) := by decide +kernel
theorem dL_law_1060 : decode cL_law 1060 = .ok (.aload_n 3, 1) := by decide +kernel
theorem dL_law_1061 : decode cL_law 1061 = .ok (.invokestatic 143, 3) := by decide +kernel
theorem dL_law_1064 : decode cL_law 1064 = .ok (.istore 5, 2) := by decide +kernel
theorem dL_law_1066 : decode cL_law 1066 = .ok (.aload_n 2, 1) := by decide +kernel
theorem dL_law_1067 : decode cL_law 1067 = .ok (.aload_n 0, 1) := by decide +kernel
theorem dL_law_1068 : decode cL_law 1068 = .ok (.iload 4, 2) := by decide +kernel
theorem dL_law_1070 : decode cL_law 1070 = .ok (.iconst 1, 1) := by decide +kernel
theorem dL_law_1071 : decode cL_law 1071 = .ok (.iadd, 1) := by decide +kernel
theorem dL_law_1072 : decode cL_law 1072 = .ok (.iaload, 1) := by decide +kernel
theorem dL_law_1073 : decode cL_law 1073 = .ok (.invokevirtual 145, 3) := by decide +kernel
theorem dL_law_1076 : decode cL_law 1076 = .ok (.istore 6, 2) := by decide +kernel
theorem dL_law_1078 : decode cL_law 1078 = .ok (.aload_n 2, 1) := by decide +kernel
theorem dL_law_1079 : decode cL_law 1079 = .ok (.invokevirtual 79, 3) := by decide +kernel
theorem dL_law_1082 : decode cL_law 1082 = .ok (.iload 5, 2) := by decide +kernel
theorem dL_law_1084 : decode cL_law 1084 = .ok (.if_icmp .eq 5, 3) := by decide +kernel
theorem dL_law_1087 : decode cL_law 1087 = .ok (.iconst 0, 1) := by decide +kernel
theorem dL_law_1088 : decode cL_law 1088 = .ok (.ireturn, 1) := by decide +kernel
theorem dL_law_1089 : decode cL_law 1089 = .ok (.iload 5, 2) := by decide +kernel
theorem dL_law_1091 : decode cL_law 1091 = .ok (.ifCond .ne 15, 3) := by decide +kernel
theorem dL_law_1094 : decode cL_law 1094 = .ok (.aload_n 3, 1) := by decide +kernel
theorem dL_law_1095 : decode cL_law 1095 = .ok (.iconst 0, 1) := by decide +kernel
theorem dL_law_1096 : decode cL_law 1096 = .ok (.laload, 1) := by decide +kernel
theorem dL_law_1097 : decode cL_law 1097 = .ok (.iload 6, 2) := by decide +kernel
theorem dL_law_1099 : decode cL_law 1099 = .ok (.i2l, 1) := by decide +kernel
theorem dL_law_1100 : decode cL_law 1100 = .ok (.lcmp, 1) := by decide +kernel
theorem dL_law_1101 : decode cL_law 1101 = .ok (.ifCond .eq 5, 3) := by decide +kernel
theorem dL_law_1104 : decode cL_law 1104 = .ok (.iconst 0, 1) := by decide +kernel
theorem dL_law_1105 : decode cL_law 1105 = .ok (.ireturn, 1) := by decide +kernel
theorem dL_law_1106 : decode cL_law 1106 = .ok (.goto 41, 3) := by decide +kernel
theorem dL_law_1109 : decode cL_law 1109 = .ok (.aload_n 1, 1) := by decide +kernel
theorem dL_law_1110 : decode cL_law 1110 = .ok (.invokevirtual 146, 3) := by decide +kernel
theorem dL_law_1113 : decode cL_law 1113 = .ok (.aload_n 2, 1) := by decide +kernel
theorem dL_law_1114 : decode cL_law 1114 = .ok (.invokevirtual 149, 3) := by decide +kernel
theorem dL_law_1117 : decode cL_law 1117 = .ok (.if_icmp .eq 30, 3) := by decide +kernel
theorem dL_law_1120 : decode cL_law 1120 = .ok (.iconst 0, 1) := by decide +kernel
theorem dL_law_1121 : decode cL_law 1121 = .ok (.ireturn, 1) := by decide +kernel
theorem dL_law_1122 : decode cL_law 1122 = .ok (.aload_n 1, 1) := by decide +kernel
theorem dL_law_1123 : decode cL_law 1123 = .ok (.aload_n 0, 1) := by decide +kernel
theorem dL_law_1124 : decode cL_law 1124 = .ok (.iload 4, 2) := by decide +kernel
theorem dL_law_1126 : decode cL_law 1126 = .ok (.iconst 1, 1) := by decide +kernel
theorem dL_law_1127 : decode cL_law 1127 = .ok (.iadd, 1) := by decide +kernel
theorem dL_law_1128 : decode cL_law 1128 = .ok (.iaload, 1) := by decide +kernel
theorem dL_law_1129 : decode cL_law 1129 = .ok (.invokevirtual 150, 3) := by decide +kernel
theorem dL_law_1132 : decode cL_law 1132 = .ok (.aload_n 2, 1) := by decide +kernel
theorem dL_law_1133 : decode cL_law 1133 = .ok (.aload_n 0, 1) := by decide +kernel
theorem dL_law_1134 : decode cL_law 1134 = .ok (.iload 4, 2) := by decide +kernel
theorem dL_law_1136 : decode cL_law 1136 = .ok (.iconst 1, 1) := by decide +kernel
theorem dL_law_1137 : decode cL_law 1137 = .ok (.iadd, 1) := by decide +kernel
theorem dL_law_1138 : decode cL_law 1138 = .ok (.iaload, 1) := by decide +kernel
theorem dL_law_1139 : decode cL_law 1139 = .ok (.invokevirtual 153, 3) := by decide +kernel
theorem dL_law_1142 : decode cL_law 1142 = .ok (.if_icmp .eq 5, 3) := by decide +kernel
theorem dL_law_1145 : decode cL_law 1145 = .ok (.iconst 0, 1) := by decide +kernel
theorem dL_law_1146 : decode cL_law 1146 = .ok (.ireturn, 1) := by decide +kernel
theorem dL_law_1147 : decode cL_law 1147 = .ok (.iinc 4 4, 3) := by decide +kernel
theorem dL_law_1150 : decode cL_law 1150 = .ok (.goto (-1107), 3) := by decide +kernel
theorem dL_law_1153 : decode cL_law 1153 = .ok (.iconst 1, 1) := by decide +kernel
theorem dL_law_1154 : decode cL_law 1154 = .ok (.ireturn, 1) := by decide +kernel
abbrev vwCl : List vw_C := [(RJ0, TJ0, 4), (RJ4, TJ4, 4), (RJx00060, TJx00060, 6), (RX0, TX0, 3), (RX1, TX1, 8), (RX2, TX2, 8), (RX3, TX3, 2), (RX4, TX4, 6), (RX5, TX5, 6), (RX6, TX6, 15), (RX7, TX7, 23)]
