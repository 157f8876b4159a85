theorem dX7_turn_31 : decode cX7_turn 31 = .ok (.goto 4, 3) := by decide +kernel
theorem dX7_turn_34 : decode cX7_turn 34 = .ok (.iconst 0, 1) := by decide +kernel
theorem dX7_turn_35 : decode cX7_turn 35 = .ok (.invokevirtual 75, 3) := by decide +kernel
theorem dX7_turn_38 : decode cX7_turn 38 = .ok (.ifCond .ne 8, 3) := by decide +kernel
theorem dX7_turn_41 : decode cX7_turn 41 = .ok (.iload_n 2, 1) := by decide +kernel
theorem dX7_turn_42 : decode cX7_turn 42 = .ok (.iload_n 3, 1) := by decide +kernel
theorem dX7_turn_43 : decode cX7_turn 43 = .ok (.if_icmp .ne 5, 3) := by decide +kernel
theorem dX7_turn_46 : decode cX7_turn 46 = .ok (.iconst 0, 1) := by decide +kernel
theorem dX7_turn_47 : decode cX7_turn 47 = .ok (.ireturn, 1) := by decide +kernel
theorem dX7_turn_48 : decode cX7_turn 48 = .ok (.aload_n 0, 1) := by decide +kernel
theorem dX7_turn_49 : decode cX7_turn 49 = .ok (.getfield 39, 3) := by decide +kernel
theorem dX7_turn_52 : decode cX7_turn 52 = .ok (.bipush 8, 2) := by decide +kernel
theorem dX7_turn_54 : decode cX7_turn 54 = .ok (.iload_n 1, 1) := by decide +kernel
theorem dX7_turn_55 : decode cX7_turn 55 = .ok (.imul, 1) := by decide +kernel
theorem dX7_turn_56 : decode cX7_turn 56 = .ok (.iload_n 2, 1) := by decide +kernel
theorem dX7_turn_57 : decode cX7_turn 57 = .ok (.iadd, 1) := by decide +kernel
theorem dX7_turn_58 : decode cX7_turn 58 = .ok (.iaload, 1) := by decide +kernel
theorem dX7_turn_59 : decode cX7_turn 59 = .ok (.istore 4, 2) := by decide +kernel
theorem dX7_turn_61 : decode cX7_turn 61 = .ok (.aload_n 0, 1) := by decide +kernel
theorem dX7_turn_62 : decode cX7_turn 62 = .ok (.getfield 39, 3) := by decide +kernel
theorem dX7_turn_65 : decode cX7_turn 65 = .ok (.bipush 8, 2) := by decide +kernel
theorem dX7_turn_67 : decode cX7_turn 67 = .ok (.iload_n 1, 1) := by decide +kernel
theorem dX7_turn_68 : decode cX7_turn 68 = .ok (.imul, 1) := by decide +kernel
theorem dX7_turn_69 : decode cX7_turn 69 = .ok (.iload_n 2, 1) := by decide +kernel
theorem dX7_turn_70 : decode cX7_turn 70 = .ok (.iadd, 1) := by decide +kernel
theorem dX7_turn_71 : decode cX7_turn 71 = .ok (.aload_n 0, 1) := by decide +kernel
theorem dX7_turn_72 : decode cX7_turn 72 = .ok (.getfield 39, 3) := by decide +kernel
theorem dX7_turn_75 : decode cX7_turn 75 = .ok (.bipush 8, 2) := by decide +kernel
theorem dX7_turn_77 : decode cX7_turn 77 = .ok (.iload_n 1, 1) := by decide +kernel
theorem dX7_turn_78 : decode cX7_turn 78 = .ok (.imul, 1) := by decide +kernel
theorem dX7_turn_79 : decode cX7_turn 79 = .ok (.iload_n 3, 1) := by decide +kernel
theorem dX7_turn_80 : decode cX7_turn 80 = .ok (.iadd, 1) := by decide +kernel
theorem dX7_turn_81 : decode cX7_turn 81 = .ok (.iaload, 1) := by decide +kernel
theorem dX7_turn_82 : decode cX7_turn 82 = .ok (.iastore, 1) := by decide +kernel
theorem dX7_turn_83 : decode cX7_turn 83 = .ok (.aload_n 0, 1) := by decide +kernel
theorem dX7_turn_84 : decode cX7_turn 84 = .ok (.getfield 39, 3) := by decide +kernel
theorem dX7_turn_87 : decode cX7_turn 87 = .ok (.bipush 8, 2) := by decide +kernel
theorem dX7_turn_89 : decode cX7_turn 89 = .ok (.iload_n 1, 1) := by decide +kernel
theorem dX7_turn_90 : decode cX7_turn 90 = .ok (.imul, 1) := by decide +kernel
theorem dX7_turn_91 : decode cX7_turn 91 = .ok (.iload_n 3, 1) := by decide +kernel
theorem dX7_turn_92 : decode cX7_turn 92 = .ok (.iadd, 1) := by decide +kernel
theorem dX7_turn_93 : decode cX7_turn 93 = .ok (.iload 4, 2) := by decide +kernel
theorem dX7_turn_95 : decode cX7_turn 95 = .ok (.iastore, 1) := by decide +kernel
theorem dX7_turn_96 : decode cX7_turn 96 = .ok (.iconst 1, 1) := by decide +kernel
theorem dX7_turn_97 : decode cX7_turn 97 = .ok (.ireturn, 1) := by decide +kernel
theorem dX7_isTaken_0 : decode cX7_isTaken 0 = .ok (.iconst 0, 1) := by decide +kernel
theorem dX7_isTaken_1 : decode cX7_isTaken 1 = .ok (.istore 4, 2) := by decide +kernel
theorem dX7_isTaken_3 : decode cX7_isTaken 3 = .ok (.iload 4, 2) := by decide +kernel
theorem dX7_isTaken_5 : decode cX7_isTaken 5 = .ok (.aload_n 0, 1) := by decide +kernel
theorem dX7_isTaken_6 : decode cX7_isTaken 6 = .ok (.getfield 51, 3) := by decide +kernel
theorem dX7_isTaken_9 : decode cX7_isTaken 9 = .ok (.if_icmp .ge 89, 3) := by decide +kernel
theorem dX7_isTaken_12 : decode cX7_isTaken 12 = .ok (.aload_n 0, 1) := by decide +kernel
theorem dX7_isTaken_13 : decode cX7_isTaken 13 = .ok (.getfield 39, 3) := by decide +kernel
theorem dX7_isTaken_16 : decode cX7_isTaken 16 = .ok (.bipush 8, 2) := by decide +kernel
theorem dX7_isTaken_18 : decode cX7_isTaken 18 = .ok (.iload_n 1, 1) := by decide +kernel
theorem dX7_isTaken_19 : decode cX7_isTaken 19 = .ok (.imul, 1) := by decide +kernel
theorem dX7_isTaken_20 : decode cX7_isTaken 20 = .ok (.iload 4, 2) := by decide +kernel
theorem dX7_isTaken_22 : decode cX7_isTaken 22 = .ok (.iadd, 1) := by decide +kernel
theorem dX7_isTaken_23 : decode cX7_isTaken 23 = .ok (.iaload, 1) := by decide +kernel
theorem dX7_isTaken_24 : decode cX7_isTaken 24 = .ok (.istore 5, 2) := by decide +kernel
theorem dX7_isTaken_26 : decode cX7_isTaken 26 = .ok (.aload_n 0, 1) := by decide +kernel
theorem dX7_isTaken_27 : decode cX7_isTaken 27 = .ok (.getfield 7, 3) := by decide +kernel
theorem dX7_isTaken_30 : decode cX7_isTaken 30 = .ok (.bipush 8, 2) := by decide +kernel
theorem dX7_isTaken_32 : decode cX7_isTaken 32 = .ok (.iload_n 3, 1) := by decide +kernel
theorem dX7_isTaken_33 : decode cX7_isTaken 33 = .ok (.imul, 1) := by decide +kernel
theorem dX7_isTaken_34 : decode cX7_isTaken 34 = .ok (.iload 5, 2) := by decide +kernel
theorem dX7_isTaken_36 : decode cX7_isTaken 36 = .ok (.iadd, 1) := by decide +kernel
theorem dX7_isTaken_37 : decode cX7_isTaken 37 = .ok (.iaload, 1) := by decide +kernel
theorem dX7_isTaken_38 : decode cX7_isTaken 38 = .ok (.aload_n 0, 1) := by decide +kernel
theorem dX7_isTaken_39 : decode cX7_isTaken 39 = .ok (.getfield 39, 3) := by decide +kernel
theorem dX7_isTaken_42 : decode cX7_isTaken 42 = .ok (.bipush 8, 2) := by decide +kernel
theorem dX7_isTaken_44 : decode cX7_isTaken 44 = .ok (.iload_n 1, 1) := by decide +kernel
theorem dX7_isTaken_45 : decode cX7_isTaken 45 = .ok (.imul, 1) := by decide +kernel
theorem dX7_isTaken_46 : decode cX7_isTaken 46 = .ok (.aload_n 0, 1) := by decide +kernel
theorem dX7_isTaken_47 : decode cX7_isTaken 47 = .ok (.getfield 7, 3) := by decide +kernel
theorem dX7_isTaken_50 : decode cX7_isTaken 50 = .ok (.bipush 8, 2) := by decide +kernel
theorem dX7_isTaken_52 : decode cX7_isTaken 52 = .ok (.iload_n 2, 1) := by decide +kernel
theorem dX7_isTaken_53 : decode cX7_isTaken 53 = .ok (.imul, 1) := by decide +kernel
theorem dX7_isTaken_54 : decode cX7_isTaken 54 = .ok (.iload 4, 2) := by decide +kernel
theorem dX7_isTaken_56 : decode cX7_isTaken 56 = .ok (.iadd, 1) := by decide +kernel
theorem dX7_isTaken_57 : decode cX7_isTaken 57 = .ok (.iaload, 1) := by decide +kernel
theorem dX7_isTaken_58 : decode cX7_isTaken 58 = .ok (.iadd, 1) := by decide +kernel
theorem dX7_isTaken_59 : decode cX7_isTaken 59 = .ok (.iaload, 1) := by decide +kernel
theorem dX7_isTaken_60 : decode cX7_isTaken 60 = .ok (.if_icmp .ne 30, 3) := by decide +kernel
theorem dX7_isTaken_63 : decode cX7_isTaken 63 = .ok (.aload_n 0, 1) := by decide +kernel
theorem dX7_isTaken_64 : decode cX7_isTaken 64 = .ok (.getfield 13, 3) := by decide +kernel
theorem dX7_isTaken_67 : decode cX7_isTaken 67 = .ok (.bipush 8, 2) := by decide +kernel
theorem dX7_isTaken_69 : decode cX7_isTaken 69 = .ok (.iload_n 3, 1) := by decide +kernel
theorem dX7_isTaken_70 : decode cX7_isTaken 70 = .ok (.imul, 1) := by decide +kernel
theorem dX7_isTaken_71 : decode cX7_isTaken 71 = .ok (.iload 5, 2) := by decide +kernel
theorem dX7_isTaken_73 : decode cX7_isTaken 73 = .ok (.iadd, 1) := by decide +kernel
theorem dX7_isTaken_74 : decode cX7_isTaken 74 = .ok (.iaload, 1) := by decide +kernel
theorem dX7_isTaken_75 : decode cX7_isTaken 75 = .ok (.aload_n 0, 1) := by decide +kernel
theorem dX7_isTaken_76 : decode cX7_isTaken 76 = .ok (.getfield 13, 3) := by decide +kernel
theorem dX7_isTaken_79 : decode cX7_isTaken 79 = .ok (.bipush 8, 2) := by decide +kernel
theorem dX7_isTaken_81 : decode cX7_isTaken 81 = .ok (.iload_n 2, 1) := by decide +kernel
theorem dX7_isTaken_82 : decode cX7_isTaken 82 = .ok (.imul, 1) := by decide +kernel
theorem dX7_isTaken_83 : decode cX7_isTaken 83 = .ok (.iload 4, 2) := by decide +kernel
theorem dX7_isTaken_85 : decode cX7_isTaken 85 = .ok (.iadd, 1) := by decide +kernel
theorem dX7_isTaken_86 : decode cX7_isTaken 86 = .ok (.iaload, 1) := by decide +kernel
theorem dX7_isTaken_87 : decode cX7_isTaken 87 = .ok (.if_icmp .eq 5, 3) := by decide +kernel
theorem dX7_isTaken_90 : decode cX7_isTaken 90 = .ok (.iconst 0, 1) := by decide +kernel
theorem dX7_isTaken_91 : decode cX7_isTaken 91 = .ok (.ireturn, 1) := by decide +kernel
theorem dX7_isTaken_92 : decode cX7_isTaken 92 = .ok (.iinc 4 1, 3) := by decide +kernel
theorem dX7_isTaken_95 : decode cX7_isTaken 95 = .ok (.goto (-92), 3) := by decide +kernel
theorem dX7_isTaken_98 : decode cX7_isTaken 98 = .ok (.iconst 1, 1) := by decide +kernel
theorem dX7_isTaken_99 : decode cX7_isTaken 99 = .ok (.ireturn, 1) := by decide +kernel
set_option maxRecDepth 20000 in
theorem ggX7_isGood_X7_isTaken : GoodIn wsX7_isGood wsX7_isTaken := goodIn_ca (goodIn_r _ [9, 1, 3, 10, 11, 12, 13, 14, 15, 16, 17, 18, 19, 20, 21, 22, 23, 24, 25, 26, 27, 28, 29, 30, 31, 32, 33, 34] (by decide +kernel) (by decide +kernel)) (goodIn_sub (fun _ h => List.mem_cons_of_mem _ (List.mem_append_right _ h)) (by decide +kernel))
set_option maxRecDepth 20000 in
theorem gX7_isGood_X7_isTaken : GoodIn wsX7_isGood (wsV RX7 135 RX7 yX7_isTaken wsX7_isTaken) := goodIn_app (goodIn_of _ (by decide +kernel)) ggX7_isGood_X7_isTaken
theorem dX7_isGood_0 : decode cX7_isGood 0 = .ok (.iconst 0, 1) := by decide +kernel
theorem dX7_isGood_1 : decode cX7_isGood 1 = .ok (.istore_n 2, 1) := by decide +kernel
theorem dX7_isGood_2 : decode cX7_isGood 2 = .ok (.iload_n 2, 1) := by decide +kernel
theorem dX7_isGood_3 : decode cX7_isGood 3 = .ok (.aload_n 0, 1) := by decide +kernel
theorem dX7_isGood_4 : decode cX7_isGood 4 = .ok (.getfield 51, 3) := by decide +kernel
theorem dX7_isGood_7 : decode cX7_isGood 7 = .ok (.if_icmp .ge 36, 3) := by decide +kernel
theorem dX7_isGood_10 : decode cX7_isGood 10 = .ok (.aload_n 0, 1) := by decide +kernel
theorem dX7_isGood_11 : decode cX7_isGood 11 = .ok (.getfield 16, 3) := by decide +kernel
theorem dX7_isGood_14 : decode cX7_isGood 14 = .ok (.iload_n 2, 1) := by decide +kernel
theorem dX7_isGood_15 : decode cX7_isGood 15 = .ok (.baload, 1) := by decide +kernel
theorem dX7_isGood_16 : decode cX7_isGood 16 = .ok (.aload_n 0, 1) := by decide +kernel
theorem dX7_isGood_17 : decode cX7_isGood 17 = .ok (.getfield 16, 3) := by decide +kernel
theorem dX7_isGood_20 : decode cX7_isGood 20 = .ok (.aload_n 0, 1) := by decide +kernel
theorem dX7_isGood_21 : decode cX7_isGood 21 = .ok (.getfield 39, 3) := by decide +kernel
theorem dX7_isGood_24 : decode cX7_isGood 24 = .ok (.bipush 8, 2) := by decide +kernel
theorem dX7_isGood_26 : decode cX7_isGood 26 = .ok (.iload_n 1, 1) := by decide +kernel
theorem dX7_isGood_27 : decode cX7_isGood 27 = .ok (.imul, 1) := by decide +kernel
theorem dX7_isGood_28 : decode cX7_isGood 28 = .ok (.iload_n 2, 1) := by decide +kernel
theorem dX7_isGood_29 : decode cX7_isGood 29 = .ok (.iadd, 1) := by decide +kernel
theorem dX7_isGood_30 : decode cX7_isGood 30 = .ok (.iaload, 1) := by decide +kernel
theorem dX7_isGood_31 : decode cX7_isGood 31 = .ok (.baload, 1) := by decide +kernel
theorem dX7_isGood_32 : decode cX7_isGood 32 = .ok (.if_icmp .eq 5, 3) := by decide +kernel
theorem dX7_isGood_35 : decode cX7_isGood 35 = .ok (.iconst 0, 1) := by decide +kernel
theorem dX7_isGood_36 : decode cX7_isGood 36 = .ok (.ireturn, 1) := by decide +kernel
theorem dX7_isGood_37 : decode cX7_isGood 37 = .ok (.iinc 2 1, 3) := by decide +kernel
theorem dX7_isGood_40 : decode cX7_isGood 40 = .ok (.goto (-38), 3) := by decide +kernel
theorem dX7_isGood_43 : decode cX7_isGood 43 = .ok (.iconst 0, 1) := by decide +kernel
theorem dX7_isGood_44 : decode cX7_isGood 44 = .ok (.istore_n 2, 1) := by decide +kernel
theorem dX7_isGood_45 : decode cX7_isGood 45 = .ok (.iload_n 2, 1) := by decide +kernel
theorem dX7_isGood_46 : decode cX7_isGood 46 = .ok (.aload_n 0, 1) := by decide +kernel
theorem dX7_isGood_47 : decode cX7_isGood 47 = .ok (.getfield 61, 3) := by decide +kernel
theorem dX7_isGood_50 : decode cX7_isGood 50 = .ok (.if_icmp .ge 56, 3) := by decide +kernel
theorem dX7_isGood_53 : decode cX7_isGood 53 = .ok (.iconst 0, 1) := by decide +kernel
theorem dX7_isGood_54 : decode cX7_isGood 54 = .ok (.istore_n 3, 1) := by decide +kernel
theorem dX7_isGood_55 : decode cX7_isGood 55 = .ok (.iconst 0, 1) := by decide +kernel
theorem dX7_isGood_56 : decode cX7_isGood 56 = .ok (.istore 4, 2) := by decide +kernel
theorem dX7_isGood_58 : decode cX7_isGood 58 = .ok (.iload 4, 2) := by decide +kernel
theorem dX7_isGood_60 : decode cX7_isGood 60 = .ok (.aload_n 0, 1) := by decide +kernel
theorem dX7_isGood_61 : decode cX7_isGood 61 = .ok (.getfield 61, 3) := by decide +kernel
theorem dX7_isGood_64 : decode cX7_isGood 64 = .ok (.if_icmp .ge 30, 3) := by decide +kernel
theorem dX7_isGood_67 : decode cX7_isGood 67 = .ok (.iload_n 3, 1) := by decide +kernel
theorem dX7_isGood_68 : decode cX7_isGood 68 = .ok (.ifCond .ne 14, 3) := by decide +kernel
theorem dX7_isGood_71 : decode cX7_isGood 71 = .ok (.aload_n 0, 1) := by decide +kernel
theorem dX7_isGood_72 : decode cX7_isGood 72 = .ok (.iload_n 1, 1) := by decide +kernel
theorem dX7_isGood_73 : decode cX7_isGood 73 = .ok (.iload_n 2, 1) := by decide +kernel
theorem dX7_isGood_74 : decode cX7_isGood 74 = .ok (.iload 4, 2) := by decide +kernel
theorem dX7_isGood_76 : decode cX7_isGood 76 = .ok (.invokevirtual 135, 3) := by decide +kernel
theorem dX7_isGood_79 : decode cX7_isGood 79 = .ok (.ifCond .eq 7, 3) := by decide +kernel
theorem dX7_isGood_82 : decode cX7_isGood 82 = .ok (.iconst 1, 1) := by decide +kernel
theorem dX7_isGood_83 : decode cX7_isGood 83 = .ok (.goto 4, 3) := by decide +kernel
theorem dX7_isGood_86 : decode cX7_isGood 86 = .ok (.iconst 0, 1) := by decide +kernel
theorem dX7_isGood_87 : decode cX7_isGood 87 = .ok (.istore_n 3, 1) := by decide +kernel
theorem dX7_isGood_88 : decode cX7_isGood 88 = .ok (.iinc 4 1, 3) := by decide +kernel
theorem dX7_isGood_91 : decode cX7_isGood 91 = .ok (.goto (-33), 3) := by decide +kernel
theorem dX7_isGood_94 : decode cX7_isGood 94 = .ok (.iload_n 3, 1) := by decide +kernel
theorem dX7_isGood_95 : decode cX7_isGood 95 = .ok (.ifCond .ne 5, 3) := by decide +kernel
theorem dX7_isGood_98 : decode cX7_isGood 98 = .ok (.iconst 0, 1) := by decide +kernel
theorem dX7_isGood_99 : decode cX7_isGood 99 = .ok (.ireturn, 1) := by decide +kernel
theorem dX7_isGood_100 : decode cX7_isGood 100 = .ok (.iinc 2 1, 3) := by decide +kernel
theorem dX7_isGood_103 : decode cX7_isGood 103 = .ok (.goto (-58), 3) := by decide +kernel
theorem dX7_isGood_106 : decode cX7_isGood 106 = .ok (.iconst 1, 1) := by decide +kernel
theorem dX7_isGood_107 : decode cX7_isGood 107 = .ok (.ireturn, 1) := by decide +kernel
set_option maxRecDepth 20000 in
theorem ggX7_good_X7_throwsIf : GoodIn wsX7_good wsX7_throwsIf := goodIn_r _ [6, 7, 22, 23, 24, 25, 26, 27, 28, 29, 30, 31, 32, 33, 34, 35, 36, 37, 38, 39, 40, 41, 42, 43, 44] (by decide +kernel) (by decide +kernel)
set_option maxRecDepth 20000 in
theorem gX7_good_X7_throwsIf : GoodIn wsX7_good (wsV RX7 75 RX7 yX7_throwsIf wsX7_throwsIf) := goodIn_app (goodIn_of _ (by decide +kernel)) ggX7_good_X7_throwsIf
set_option maxRecDepth 20000 in
theorem ggX7_good_X7_isGood : GoodIn wsX7_good wsX7_isGood := goodIn_ca (goodIn_r _ [11, 12, 13, 14, 15, 16, 17, 18, 5, 19, 20, 21, 22, 23, 24, 25, 26, 27, 28, 29, 30, 31, 32, 33, 34, 35, 36, 37, 38, 39, 40, 41, 42, 43, 44] (by decide +kernel) (by decide +kernel)) (goodIn_sub (fun _ h => List.mem_cons_of_mem _ (List.mem_append_right _ h)) (by decide +kernel))
set_option maxRecDepth 20000 in
theorem gX7_good_X7_isGood : GoodIn wsX7_good (wsV RX7 139 RX7 yX7_isGood wsX7_isGood) := goodIn_app (goodIn_of _ (by decide +kernel)) ggX7_good_X7_isGood
theorem dX7_good_0 : decode cX7_good 0 = .ok (.aload_n 0, 1) := by decide +kernel
theorem dX7_good_1 : decode cX7_good 1 = .ok (.iconst 1, 1) := by decide +kernel
theorem dX7_good_2 : decode cX7_good 2 = .ok (.iload_n 1, 1) := by decide +kernel
theorem dX7_good_3 : decode cX7_good 3 = .ok (.ifCond .lt 11, 3) := by decide +kernel
theorem dX7_good_6 : decode cX7_good 6 = .ok (.iload_n 1, 1) := by decide +kernel
theorem dX7_good_7 : decode cX7_good 7 = .ok (.aload_n 0, 1) := by decide +kernel
theorem dX7_good_8 : decode cX7_good 8 = .ok (.getfield 132, 3) := by decide +kernel
theorem dX7_good_11 : decode cX7_good 11 = .ok (.if_icmp .lt 7, 3) := by decide +kernel
theorem dX7_good_14 : decode cX7_good 14 = .ok (.iconst 1, 1) := by decide +kernel
theorem dX7_good_15 : decode cX7_good 15 = .ok (.goto 4, 3) := by decide +kernel
theorem dX7_good_18 : decode cX7_good 18 = .ok (.iconst 0, 1) := by decide +kernel
theorem dX7_good_19 : decode cX7_good 19 = .ok (.invokevirtual 75, 3) := by decide +kernel
theorem dX7_good_22 : decode cX7_good 22 = .ok (.ifCond .ne 15, 3) := by decide +kernel
theorem dX7_good_25 : decode cX7_good 25 = .ok (.aload_n 0, 1) := by decide +kernel
theorem dX7_good_26 : decode cX7_good 26 = .ok (.iload_n 1, 1) := by decide +kernel
theorem dX7_good_27 : decode cX7_good 27 = .ok (.invokevirtual 139, 3) := by decide +kernel
theorem dX7_good_30 : decode cX7_good 30 = .ok (.ifCond .eq 7, 3) := by decide +kernel
theorem dX7_good_33 : decode cX7_good 33 = .ok (.iconst 1, 1) := by decide +kernel
theorem dX7_good_34 : decode cX7_good 34 = .ok (.goto 4, 3) := by decide +kernel
theorem dX7_good_37 : decode cX7_good 37 = .ok (.iconst 0, 1) := by decide +kernel
theorem dX7_good_38 : decode cX7_good 38 = .ok (.ireturn, 1) := by decide +kernel
set_option maxRecDepth 20000 in
theorem ggX7_imageOf_X7_take : GoodIn wsX7_imageOf wsX7_take := goodIn_ca (goodIn_r _ [12, 1, 5, 13, 3, 14, 15, 16, 17, 11, 18, 27, 28, 29, 30, 31, 32, 33, 34, 35, 36, 37, 38, 39, 40, 41, 42, 43, 44, 45, 46, 47, 48, 49] (by decide +kernel) (by decide +kernel)) (goodIn_sub (fun _ h => List.mem_cons_of_mem _ (List.mem_append_right _ h)) (by decide +kernel))
set_option maxRecDepth 20000 in
theorem gX7_imageOf_X7_take : GoodIn wsX7_imageOf (wsV RX7 106 RX7 yX7_take wsX7_take) := goodIn_app (goodIn_of _ (by decide +kernel)) ggX7_imageOf_X7_take
set_option maxRecDepth 20000 in
theorem ggX7_imageOf_X7_rankOf : GoodIn wsX7_imageOf wsX7_rankOf := goodIn_ca (goodIn_r _ [22, 1, 7, 27, 28, 29, 30, 31, 32, 33, 34, 35, 36, 37, 38, 39, 40, 41, 42, 43, 44, 45, 46, 47, 48, 49] (by decide +kernel) (by decide +kernel)) (goodIn_sub (fun _ h => List.mem_cons_of_mem _ (List.mem_append_right _ h)) (by decide +kernel))
set_option maxRecDepth 20000 in
theorem gX7_imageOf_X7_rankOf : GoodIn wsX7_imageOf (wsV RX7 110 RX7 yX7_rankOf wsX7_rankOf) := goodIn_app (goodIn_of _ (by decide +kernel)) ggX7_imageOf_X7_rankOf
set_option maxRecDepth 20000 in
theorem ggX7_imageOf_X7_numberOf : GoodIn wsX7_imageOf wsX7_numberOf := goodIn_ca (goodIn_r _ [26, 1, 3, 14, 13, 5, 15, 16, 17, 11, 18, 27, 28, 29, 30, 31, 32, 33, 34, 35, 36, 37, 38, 39, 40, 41, 42, 43, 44, 45, 46, 47, 48, 49] (by decide +kernel) (by decide +kernel)) (goodIn_sub (fun _ h => List.mem_cons_of_mem _ (List.mem_append_right _ h)) (by decide +kernel))
set_option maxRecDepth 20000 in
theorem gX7_imageOf_X7_numberOf : GoodIn wsX7_imageOf (wsV RX7 100 RX7 yX7_numberOf wsX7_numberOf) := goodIn_app (goodIn_of _ (by decide +kernel)) ggX7_imageOf_X7_numberOf
theorem dX7_imageOf_0 : decode cX7_imageOf 0 = .ok (.aload_n 0, 1) := by decide +kernel
theorem dX7_imageOf_1 : decode cX7_imageOf 1 = .ok (.iload_n 1, 1) := by decide +kernel
theorem dX7_imageOf_2 : decode cX7_imageOf 2 = .ok (.invokevirtual 106, 3) := by decide +kernel
theorem dX7_imageOf_5 : decode cX7_imageOf 5 = .ok (.iconst 0, 1) := by decide +kernel
theorem dX7_imageOf_6 : decode cX7_imageOf 6 = .ok (.istore_n 3, 1) := by decide +kernel
theorem dX7_imageOf_7 : decode cX7_imageOf 7 = .ok (.iload_n 3, 1) := by decide +kernel
theorem dX7_imageOf_8 : decode cX7_imageOf 8 = .ok (.aload_n 0, 1) := by decide +kernel
theorem dX7_imageOf_9 : decode cX7_imageOf 9 = .ok (.getfield 83, 3) := by decide +kernel
theorem dX7_imageOf_12 : decode cX7_imageOf 12 = .ok (.if_icmp .ge 33, 3) := by decide +kernel
theorem dX7_imageOf_15 : decode cX7_imageOf 15 = .ok (.aload_n 0, 1) := by decide +kernel
theorem dX7_imageOf_16 : decode cX7_imageOf 16 = .ok (.getfield 42, 3) := by decide +kernel
theorem dX7_imageOf_19 : decode cX7_imageOf 19 = .ok (.iload_n 3, 1) := by decide +kernel
theorem dX7_imageOf_20 : decode cX7_imageOf 20 = .ok (.aload_n 0, 1) := by decide +kernel
theorem dX7_imageOf_21 : decode cX7_imageOf 21 = .ok (.getfield 23, 3) := by decide +kernel
theorem dX7_imageOf_24 : decode cX7_imageOf 24 = .ok (.iload_n 3, 1) := by decide +kernel
theorem dX7_imageOf_25 : decode cX7_imageOf 25 = .ok (.iaload, 1) := by decide +kernel
theorem dX7_imageOf_26 : decode cX7_imageOf 26 = .ok (.iastore, 1) := by decide +kernel
theorem dX7_imageOf_27 : decode cX7_imageOf 27 = .ok (.aload_n 0, 1) := by decide +kernel
theorem dX7_imageOf_28 : decode cX7_imageOf 28 = .ok (.getfield 45, 3) := by decide +kernel
theorem dX7_imageOf_31 : decode cX7_imageOf 31 = .ok (.iload_n 3, 1) := by decide +kernel
theorem dX7_imageOf_32 : decode cX7_imageOf 32 = .ok (.aload_n 0, 1) := by decide +kernel
theorem dX7_imageOf_33 : decode cX7_imageOf 33 = .ok (.getfield 26, 3) := by decide +kernel
theorem dX7_imageOf_36 : decode cX7_imageOf 36 = .ok (.iload_n 3, 1) := by decide +kernel
theorem dX7_imageOf_37 : decode cX7_imageOf 37 = .ok (.iaload, 1) := by decide +kernel
theorem dX7_imageOf_38 : decode cX7_imageOf 38 = .ok (.iastore, 1) := by decide +kernel
theorem dX7_imageOf_39 : decode cX7_imageOf 39 = .ok (.iinc 3 1, 3) := by decide +kernel
theorem dX7_imageOf_42 : decode cX7_imageOf 42 = .ok (.goto (-35), 3) := by decide +kernel
theorem dX7_imageOf_45 : decode cX7_imageOf 45 = .ok (.iconst 0, 1) := by decide +kernel
theorem dX7_imageOf_46 : decode cX7_imageOf 46 = .ok (.istore_n 3, 1) := by decide +kernel
theorem dX7_imageOf_47 : decode cX7_imageOf 47 = .ok (.iload_n 3, 1) := by decide +kernel
theorem dX7_imageOf_48 : decode cX7_imageOf 48 = .ok (.aload_n 0, 1) := by decide +kernel
theorem dX7_imageOf_49 : decode cX7_imageOf 49 = .ok (.getfield 83, 3) := by decide +kernel
theorem dX7_imageOf_52 : decode cX7_imageOf 52 = .ok (.if_icmp .ge 67, 3) := by decide +kernel
theorem dX7_imageOf_55 : decode cX7_imageOf 55 = .ok (.aload_n 0, 1) := by decide +kernel
theorem dX7_imageOf_56 : decode cX7_imageOf 56 = .ok (.aload_n 0, 1) := by decide +kernel
theorem dX7_imageOf_57 : decode cX7_imageOf 57 = .ok (.getfield 39, 3) := by decide +kernel
theorem dX7_imageOf_60 : decode cX7_imageOf 60 = .ok (.bipush 8, 2) := by decide +kernel
theorem dX7_imageOf_62 : decode cX7_imageOf 62 = .ok (.iload_n 2, 1) := by decide +kernel
theorem dX7_imageOf_63 : decode cX7_imageOf 63 = .ok (.imul, 1) := by decide +kernel
theorem dX7_imageOf_64 : decode cX7_imageOf 64 = .ok (.aload_n 0, 1) := by decide +kernel
theorem dX7_imageOf_65 : decode cX7_imageOf 65 = .ok (.getfield 20, 3) := by decide +kernel
theorem dX7_imageOf_68 : decode cX7_imageOf 68 = .ok (.iload_n 3, 1) := by decide +kernel
theorem dX7_imageOf_69 : decode cX7_imageOf 69 = .ok (.iaload, 1) := by decide +kernel
theorem dX7_imageOf_70 : decode cX7_imageOf 70 = .ok (.iadd, 1) := by decide +kernel
theorem dX7_imageOf_71 : decode cX7_imageOf 71 = .ok (.iaload, 1) := by decide +kernel
theorem dX7_imageOf_72 : decode cX7_imageOf 72 = .ok (.invokevirtual 110, 3) := by decide +kernel
theorem dX7_imageOf_75 : decode cX7_imageOf 75 = .ok (.istore 4, 2) := by decide +kernel
theorem dX7_imageOf_77 : decode cX7_imageOf 77 = .ok (.aload_n 0, 1) := by decide +kernel
theorem dX7_imageOf_78 : decode cX7_imageOf 78 = .ok (.getfield 23, 3) := by decide +kernel
theorem dX7_imageOf_81 : decode cX7_imageOf 81 = .ok (.iload 4, 2) := by decide +kernel
theorem dX7_imageOf_83 : decode cX7_imageOf 83 = .ok (.aload_n 0, 1) := by decide +kernel
theorem dX7_imageOf_84 : decode cX7_imageOf 84 = .ok (.getfield 39, 3) := by decide +kernel
theorem dX7_imageOf_87 : decode cX7_imageOf 87 = .ok (.bipush 8, 2) := by decide +kernel
theorem dX7_imageOf_89 : decode cX7_imageOf 89 = .ok (.iload_n 2, 1) := by decide +kernel
theorem dX7_imageOf_90 : decode cX7_imageOf 90 = .ok (.imul, 1) := by decide +kernel
theorem dX7_imageOf_91 : decode cX7_imageOf 91 = .ok (.aload_n 0, 1) := by decide +kernel
theorem dX7_imageOf_92 : decode cX7_imageOf 92 = .ok (.getfield 42, 3) := by decide +kernel
theorem dX7_imageOf_95 : decode cX7_imageOf 95 = .ok (.iload_n 3, 1) := by decide +kernel
theorem dX7_imageOf_96 : decode cX7_imageOf 96 = .ok (.iaload, 1) := by decide +kernel
theorem dX7_imageOf_97 : decode cX7_imageOf 97 = .ok (.iadd, 1) := by decide +kernel
theorem dX7_imageOf_98 : decode cX7_imageOf 98 = .ok (.iaload, 1) := by decide +kernel
theorem dX7_imageOf_99 : decode cX7_imageOf 99 = .ok (.iastore, 1) := by decide +kernel
theorem dX7_imageOf_100 : decode cX7_imageOf 100 = .ok (.aload_n 0, 1) := by decide +kernel
theorem dX7_imageOf_101 : decode cX7_imageOf 101 = .ok (.getfield 26, 3) := by decide +kernel
theorem dX7_imageOf_104 : decode cX7_imageOf 104 = .ok (.iload 4, 2) := by decide +kernel
theorem dX7_imageOf_106 : decode cX7_imageOf 106 = .ok (.aload_n 0, 1) := by decide +kernel
theorem dX7_imageOf_107 : decode cX7_imageOf 107 = .ok (.getfield 45, 3) := by decide +kernel
theorem dX7_imageOf_110 : decode cX7_imageOf 110 = .ok (.iload_n 3, 1) := by decide +kernel
theorem dX7_imageOf_111 : decode cX7_imageOf 111 = .ok (.iaload, 1) := by decide +kernel
theorem dX7_imageOf_112 : decode cX7_imageOf 112 = .ok (.iastore, 1) := by decide +kernel
theorem dX7_imageOf_113 : decode cX7_imageOf 113 = .ok (.iinc 3 1, 3) := by decide +kernel
theorem dX7_imageOf_116 : decode cX7_imageOf 116 = .ok (.goto (-69), 3) := by decide +kernel
theorem dX7_imageOf_119 : decode cX7_imageOf 119 = .ok (.aload_n 0, 1) := by decide +kernel
theorem dX7_imageOf_120 : decode cX7_imageOf 120 = .ok (.invokevirtual 100, 3) := by decide +kernel
theorem dX7_imageOf_123 : decode cX7_imageOf 123 = .ok (.ireturn, 1) := by decide +kernel
set_option maxRecDepth 20000 in
theorem ggX7_markClass_X7_imageOf : GoodIn wsX7_markClass wsX7_imageOf := goodIn_ca (goodIn_r _ [9, 10, 11, 12, 13, 14, 15, 16, 17, 18, 19, 8, 20, 21, 22, 23, 24, 25, 26, 27, 28, 29, 30, 31, 32, 33, 34, 35, 36, 37, 38, 39, 40, 41, 42, 43, 44, 45, 46, 47, 48, 49, 50, 51, 52, 53, 54, 55, 56, 57] (by decide +kernel) (by decide +kernel)) (goodIn_sub (fun _ h => List.mem_cons_of_mem _ (List.mem_append_right _ h)) (by decide +kernel))
set_option maxRecDepth 20000 in
theorem gX7_markClass_X7_imageOf : GoodIn wsX7_markClass (wsV RX7 142 RX7 yX7_imageOf wsX7_imageOf) := goodIn_app (goodIn_of _ (by decide +kernel)) ggX7_markClass_X7_imageOf
theorem dX7_markClass_0 : decode cX7_markClass 0 = .ok (.iconst 1, 1) := by decide +kernel
theorem dX7_markClass_1 : decode cX7_markClass 1 = .ok (.istore_n 3, 1) := by decide +kernel
theorem dX7_markClass_2 : decode cX7_markClass 2 = .ok (.iload_n 1, 1) := by decide +kernel
theorem dX7_markClass_3 : decode cX7_markClass 3 = .ok (.istore 4, 2) := by decide +kernel
theorem dX7_markClass_5 : decode cX7_markClass 5 = .ok (.aload_n 0, 1) := by decide +kernel
theorem dX7_markClass_6 : decode cX7_markClass 6 = .ok (.getfield 33, 3) := by decide +kernel
theorem dX7_markClass_9 : decode cX7_markClass 9 = .ok (.iconst 0, 1) := by decide +kernel
theorem dX7_markClass_10 : decode cX7_markClass 10 = .ok (.iload_n 1, 1) := by decide +kernel
theorem dX7_markClass_11 : decode cX7_markClass 11 = .ok (.iastore, 1) := by decide +kernel
theorem dX7_markClass_12 : decode cX7_markClass 12 = .ok (.aload_n 0, 1) := by decide +kernel
theorem dX7_markClass_13 : decode cX7_markClass 13 = .ok (.getfield 36, 3) := by decide +kernel
theorem dX7_markClass_16 : decode cX7_markClass 16 = .ok (.iload_n 1, 1) := by decide +kernel
theorem dX7_markClass_17 : decode cX7_markClass 17 = .ok (.iload_n 2, 1) := by decide +kernel
theorem dX7_markClass_18 : decode cX7_markClass 18 = .ok (.iastore, 1) := by decide +kernel
theorem dX7_markClass_19 : decode cX7_markClass 19 = .ok (.iconst 0, 1) := by decide +kernel
theorem dX7_markClass_20 : decode cX7_markClass 20 = .ok (.istore 5, 2) := by decide +kernel
theorem dX7_markClass_22 : decode cX7_markClass 22 = .ok (.iload 5, 2) := by decide +kernel
theorem dX7_markClass_24 : decode cX7_markClass 24 = .ok (.iload_n 3, 1) := by decide +kernel
theorem dX7_markClass_25 : decode cX7_markClass 25 = .ok (.if_icmp .ge 114, 3) := by decide +kernel
theorem dX7_markClass_28 : decode cX7_markClass 28 = .ok (.aload_n 0, 1) := by decide +kernel
theorem dX7_markClass_29 : decode cX7_markClass 29 = .ok (.getfield 33, 3) := by decide +kernel
theorem dX7_markClass_32 : decode cX7_markClass 32 = .ok (.iload 5, 2) := by decide +kernel
theorem dX7_markClass_34 : decode cX7_markClass 34 = .ok (.iaload, 1) := by decide +kernel
theorem dX7_markClass_35 : decode cX7_markClass 35 = .ok (.iload 4, 2) := by decide +kernel
theorem dX7_markClass_37 : decode cX7_markClass 37 = .ok (.if_icmp .ge 13, 3) := by decide +kernel
theorem dX7_markClass_40 : decode cX7_markClass 40 = .ok (.aload_n 0, 1) := by decide +kernel
theorem dX7_markClass_41 : decode cX7_markClass 41 = .ok (.getfield 33, 3) := by decide +kernel
theorem dX7_markClass_44 : decode cX7_markClass 44 = .ok (.iload 5, 2) := by decide +kernel
theorem dX7_markClass_46 : decode cX7_markClass 46 = .ok (.iaload, 1) := by decide +kernel
theorem dX7_markClass_47 : decode cX7_markClass 47 = .ok (.goto 5, 3) := by decide +kernel
theorem dX7_markClass_50 : decode cX7_markClass 50 = .ok (.iload 4, 2) := by decide +kernel
theorem dX7_markClass_52 : decode cX7_markClass 52 = .ok (.istore 4, 2) := by decide +kernel
theorem dX7_markClass_54 : decode cX7_markClass 54 = .ok (.iconst 0, 1) := by decide +kernel
theorem dX7_markClass_55 : decode cX7_markClass 55 = .ok (.istore 6, 2) := by decide +kernel
theorem dX7_markClass_57 : decode cX7_markClass 57 = .ok (.iload 6, 2) := by decide +kernel
theorem dX7_markClass_59 : decode cX7_markClass 59 = .ok (.aload_n 0, 1) := by decide +kernel
theorem dX7_markClass_60 : decode cX7_markClass 60 = .ok (.getfield 132, 3) := by decide +kernel
theorem dX7_markClass_63 : decode cX7_markClass 63 = .ok (.if_icmp .ge 70, 3) := by decide +kernel
theorem dX7_markClass_66 : decode cX7_markClass 66 = .ok (.aload_n 0, 1) := by decide +kernel
theorem dX7_markClass_67 : decode cX7_markClass 67 = .ok (.getfield 48, 3) := by decide +kernel
theorem dX7_markClass_70 : decode cX7_markClass 70 = .ok (.iload 6, 2) := by decide +kernel
theorem dX7_markClass_72 : decode cX7_markClass 72 = .ok (.baload, 1) := by decide +kernel
theorem dX7_markClass_73 : decode cX7_markClass 73 = .ok (.ifCond .ne 6, 3) := by decide +kernel
theorem dX7_markClass_76 : decode cX7_markClass 76 = .ok (.goto 51, 3) := by decide +kernel
theorem dX7_markClass_79 : decode cX7_markClass 79 = .ok (.aload_n 0, 1) := by decide +kernel
theorem dX7_markClass_80 : decode cX7_markClass 80 = .ok (.aload_n 0, 1) := by decide +kernel
theorem dX7_markClass_81 : decode cX7_markClass 81 = .ok (.getfield 33, 3) := by decide +kernel
theorem dX7_markClass_84 : decode cX7_markClass 84 = .ok (.iload 5, 2) := by decide +kernel
theorem dX7_markClass_86 : decode cX7_markClass 86 = .ok (.iaload, 1) := by decide +kernel
theorem dX7_markClass_87 : decode cX7_markClass 87 = .ok (.iload 6, 2) := by decide +kernel
theorem dX7_markClass_89 : decode cX7_markClass 89 = .ok (.invokevirtual 142, 3) := by decide +kernel
theorem dX7_markClass_92 : decode cX7_markClass 92 = .ok (.istore 7, 2) := by decide +kernel
theorem dX7_markClass_94 : decode cX7_markClass 94 = .ok (.aload_n 0, 1) := by decide +kernel
theorem dX7_markClass_95 : decode cX7_markClass 95 = .ok (.getfield 36, 3) := by decide +kernel
theorem dX7_markClass_98 : decode cX7_markClass 98 = .ok (.iload 7, 2) := by decide +kernel
theorem dX7_markClass_100 : decode cX7_markClass 100 = .ok (.iaload, 1) := by decide +kernel
theorem dX7_markClass_101 : decode cX7_markClass 101 = .ok (.iload_n 2, 1) := by decide +kernel
theorem dX7_markClass_102 : decode cX7_markClass 102 = .ok (.if_icmp .ne 6, 3) := by decide +kernel
theorem dX7_markClass_105 : decode cX7_markClass 105 = .ok (.goto 22, 3) := by decide +kernel
theorem dX7_markClass_108 : decode cX7_markClass 108 = .ok (.aload_n 0, 1) := by decide +kernel
theorem dX7_markClass_109 : decode cX7_markClass 109 = .ok (.getfield 36, 3) := by decide +kernel
theorem dX7_markClass_112 : decode cX7_markClass 112 = .ok (.iload 7, 2) := by decide +kernel
theorem dX7_markClass_114 : decode cX7_markClass 114 = .ok (.iload_n 2, 1) := by decide +kernel
theorem dX7_markClass_115 : decode cX7_markClass 115 = .ok (.iastore, 1) := by decide +kernel
theorem dX7_markClass_116 : decode cX7_markClass 116 = .ok (.aload_n 0, 1) := by decide +kernel
theorem dX7_markClass_117 : decode cX7_markClass 117 = .ok (.getfield 33, 3) := by decide +kernel
theorem dX7_markClass_120 : decode cX7_markClass 120 = .ok (.iload_n 3, 1) := by decide +kernel
theorem dX7_markClass_121 : decode cX7_markClass 121 = .ok (.iload 7, 2) := by decide +kernel
theorem dX7_markClass_123 : decode cX7_markClass 123 = .ok (.iastore, 1) := by decide +kernel
theorem dX7_markClass_124 : decode cX7_markClass 124 = .ok (.iinc 3 1, 3) := by decide +kernel
theorem dX7_markClass_127 : decode cX7_markClass 127 = .ok (.iinc 6 1, 3) := by decide +kernel
theorem dX7_markClass_130 : decode cX7_markClass 130 = .ok (.goto (-73), 3) := by decide +kernel
theorem dX7_markClass_133 : decode cX7_markClass 133 = .ok (.iinc 5 1, 3) := by decide +kernel
theorem dX7_markClass_136 : decode cX7_markClass 136 = .ok (.goto (-114), 3) := by decide +kernel
theorem dX7_markClass_139 : decode cX7_markClass 139 = .ok (.iload 4, 2) := by decide +kernel
theorem dX7_markClass_141 : decode cX7_markClass 141 = .ok (.ireturn, 1) := by decide +kernel
set_option maxRecDepth 20000 in
theorem ggX7_prepare_X7_isGood : GoodIn wsX7_prepare wsX7_isGood := goodIn_ca (goodIn_r _ [8, 9, 10, 11, 12, 13, 14, 15, 7, 16, 17, 18, 25, 26, 27, 28, 29, 30, 31, 32, 33, 34, 35, 36, 37, 38, 39, 40, 41, 42, 43, 44, 45, 46, 47] (by decide +kernel) (by decide +kernel)) (goodIn_sub (fun _ h => List.mem_cons_of_mem _ (List.mem_append_right _ h)) (by decide +kernel))
set_option maxRecDepth 20000 in
theorem gX7_prepare_X7_isGood : GoodIn wsX7_prepare (wsV RX7 139 RX7 yX7_isGood wsX7_isGood) := goodIn_app (goodIn_of _ (by decide +kernel)) ggX7_prepare_X7_isGood
set_option maxRecDepth 20000 in
theorem ggX7_prepare_X7_countStates : GoodIn wsX7_prepare wsX7_countStates := goodIn_r _ [22, 23, 9, 24, 25, 26, 27, 28, 29, 30, 31, 32, 33, 34, 35, 36, 37, 38, 39, 40, 41, 42, 43, 44, 45, 46, 47] (by decide +kernel) (by decide +kernel)
set_option maxRecDepth 20000 in
theorem gX7_prepare_X7_countStates : GoodIn wsX7_prepare (wsV RX7 93 RX7 yX7_countStates wsX7_countStates) := goodIn_app (goodIn_of _ (by decide +kernel)) ggX7_prepare_X7_countStates
theorem dX7_prepare_0 : decode cX7_prepare 0 = .ok (.iconst 0, 1) := by decide +kernel
theorem dX7_prepare_1 : decode cX7_prepare 1 = .ok (.istore_n 1, 1) := by decide +kernel
theorem dX7_prepare_2 : decode cX7_prepare 2 = .ok (.iload_n 1, 1) := by decide +kernel
theorem dX7_prepare_3 : decode cX7_prepare 3 = .ok (.aload_n 0, 1) := by decide +kernel
theorem dX7_prepare_4 : decode cX7_prepare 4 = .ok (.getfield 132, 3) := by decide +kernel
theorem dX7_prepare_7 : decode cX7_prepare 7 = .ok (.if_icmp .ge 20, 3) := by decide +kernel
theorem dX7_prepare_10 : decode cX7_prepare 10 = .ok (.aload_n 0, 1) := by decide +kernel
theorem dX7_prepare_11 : decode cX7_prepare 11 = .ok (.getfield 48, 3) := by decide +kernel
theorem dX7_prepare_14 : decode cX7_prepare 14 = .ok (.iload_n 1, 1) := by decide +kernel
theorem dX7_prepare_15 : decode cX7_prepare 15 = .ok (.aload_n 0, 1) := by decide +kernel
theorem dX7_prepare_16 : decode cX7_prepare 16 = .ok (.iload_n 1, 1) := by decide +kernel
theorem dX7_prepare_17 : decode cX7_prepare 17 = .ok (.invokevirtual 139, 3) := by decide +kernel
theorem dX7_prepare_20 : decode cX7_prepare 20 = .ok (.bastore, 1) := by decide +kernel
theorem dX7_prepare_21 : decode cX7_prepare 21 = .ok (.iinc 1 1, 3) := by decide +kernel
theorem dX7_prepare_24 : decode cX7_prepare 24 = .ok (.goto (-22), 3) := by decide +kernel
theorem dX7_prepare_27 : decode cX7_prepare 27 = .ok (.iconst 0, 1) := by decide +kernel
theorem dX7_prepare_28 : decode cX7_prepare 28 = .ok (.istore_n 1, 1) := by decide +kernel
theorem dX7_prepare_29 : decode cX7_prepare 29 = .ok (.iload_n 1, 1) := by decide +kernel
theorem dX7_prepare_30 : decode cX7_prepare 30 = .ok (.aload_n 0, 1) := by decide +kernel
theorem dX7_prepare_31 : decode cX7_prepare 31 = .ok (.invokevirtual 93, 3) := by decide +kernel
theorem dX7_prepare_34 : decode cX7_prepare 34 = .ok (.if_icmp .ge 16, 3) := by decide +kernel
theorem dX7_prepare_37 : decode cX7_prepare 37 = .ok (.aload_n 0, 1) := by decide +kernel
theorem dX7_prepare_38 : decode cX7_prepare 38 = .ok (.getfield 36, 3) := by decide +kernel
theorem dX7_prepare_41 : decode cX7_prepare 41 = .ok (.iload_n 1, 1) := by decide +kernel
theorem dX7_prepare_42 : decode cX7_prepare 42 = .ok (.iconst 0, 1) := by decide +kernel
theorem dX7_prepare_43 : decode cX7_prepare 43 = .ok (.iastore, 1) := by decide +kernel
theorem dX7_prepare_44 : decode cX7_prepare 44 = .ok (.iinc 1 1, 3) := by decide +kernel
theorem dX7_prepare_47 : decode cX7_prepare 47 = .ok (.goto (-18), 3) := by decide +kernel
theorem dX7_prepare_50 : decode cX7_prepare 50 = .ok (.return_, 1) := by decide +kernel
set_option maxRecDepth 20000 in
theorem ggX7_least_X7_isState : GoodIn wsX7_least wsX7_isState := goodIn_r _ [5, 6, 7, 8, 4, 9, 10, 11, 12, 68, 69, 70, 71, 72, 73, 74, 75, 76, 77, 78, 79, 80, 81, 82, 83, 84, 85, 86, 87, 88, 89, 90] (by decide +kernel) (by decide +kernel)
set_option maxRecDepth 20000 in
theorem gX7_least_X7_isState : GoodIn wsX7_least (wsV RX7 103 RX7 yX7_isState wsX7_isState) := goodIn_app (goodIn_of _ (by decide +kernel)) ggX7_least_X7_isState
set_option maxRecDepth 20000 in
theorem ggX7_least_X7_throwsIf : GoodIn wsX7_least wsX7_throwsIf := goodIn_r _ [16, 17, 68, 69, 70, 71, 72, 73, 74, 75, 76, 77, 78, 79, 80, 81, 82, 83, 84, 85, 86, 87, 88, 89, 90] (by decide +kernel) (by decide +kernel)
set_option maxRecDepth 20000 in
theorem gX7_least_X7_throwsIf : GoodIn wsX7_least (wsV RX7 75 RX7 yX7_throwsIf wsX7_throwsIf) := goodIn_app (goodIn_of _ (by decide +kernel)) ggX7_least_X7_throwsIf
set_option maxRecDepth 20000 in
theorem ggX7_least_X7_prepare : GoodIn wsX7_least wsX7_prepare := goodIn_ca (goodIn_r _ [21, 22, 23, 24, 25, 26, 27, 4, 28, 11, 29, 30, 31, 32, 33, 34, 35, 36, 37, 6, 7, 8, 9, 10, 12, 68, 69, 70, 71, 72, 73, 74, 75, 76, 77, 78, 79, 80, 81, 82, 83, 84, 85, 86, 87, 88, 89, 90] (by decide +kernel) (by decide +kernel)) (goodIn_sub (fun _ h => List.mem_cons_of_mem _ (List.mem_append_right _ h)) (by decide +kernel))
set_option maxRecDepth 20000 in
theorem gX7_least_X7_prepare : GoodIn wsX7_least (wsV RX7 145 RX7 yX7_prepare wsX7_prepare) := goodIn_app (goodIn_of _ (by decide +kernel)) ggX7_least_X7_prepare
set_option maxRecDepth 20000 in
theorem ggX7_least_X7_markClass : GoodIn wsX7_least wsX7_markClass := goodIn_ca (goodIn_r _ [41, 42, 24, 22, 23, 43, 44, 45, 4, 46, 10, 47, 48, 49, 50, 30, 51, 52, 53, 54, 55, 12, 11, 56, 57, 58, 59, 60, 61, 62, 63, 64, 65, 66, 67, 68, 69, 70, 71, 72, 73, 74, 75, 76, 77, 78, 79, 80, 81, 82, 83, 84, 85, 86, 87, 88, 89, 90] (by decide +kernel) (by decide +kernel)) (goodIn_sub (fun _ h => List.mem_cons_of_mem _ (List.mem_append_right _ h)) (by decide +kernel))
set_option maxRecDepth 20000 in
theorem gX7_least_X7_markClass : GoodIn wsX7_least (wsV RX7 148 RX7 yX7_markClass wsX7_markClass) := goodIn_app (goodIn_of _ (by decide +kernel)) ggX7_least_X7_markClass
theorem dX7_least_0 : decode cX7_least 0 = .ok (.aload_n 0, 1) := by decide +kernel
theorem dX7_least_1 : decode cX7_least 1 = .ok (.iconst 1, 1) := by decide +kernel
theorem dX7_least_2 : decode cX7_least 2 = .ok (.aload_n 0, 1) := by decide +kernel
theorem dX7_least_3 : decode cX7_least 3 = .ok (.iload_n 1, 1) := by decide +kernel
theorem dX7_least_4 : decode cX7_least 4 = .ok (.invokevirtual 103, 3) := by decide +kernel
theorem dX7_least_7 : decode cX7_least 7 = .ok (.ifCond .ne 7, 3) := by decide +kernel
theorem dX7_least_10 : decode cX7_least 10 = .ok (.iconst 1, 1) := by decide +kernel
theorem dX7_least_11 : decode cX7_least 11 = .ok (.goto 4, 3) := by decide +kernel
theorem dX7_least_14 : decode cX7_least 14 = .ok (.iconst 0, 1) := by decide +kernel
theorem dX7_least_15 : decode cX7_least 15 = .ok (.invokevirtual 75, 3) := by decide +kernel
theorem dX7_least_18 : decode cX7_least 18 = .ok (.ifCond .eq 5, 3) := by decide +kernel
theorem dX7_least_21 : decode cX7_least 21 = .ok (.iconst 0, 1) := by decide +kernel
theorem dX7_least_22 : decode cX7_least 22 = .ok (.ireturn, 1) := by decide +kernel
theorem dX7_least_23 : decode cX7_least 23 = .ok (.aload_n 0, 1) := by decide +kernel
theorem dX7_least_24 : decode cX7_least 24 = .ok (.invokevirtual 145, 3) := by decide +kernel
theorem dX7_least_27 : decode cX7_least 27 = .ok (.aload_n 0, 1) := by decide +kernel
theorem dX7_least_28 : decode cX7_least 28 = .ok (.iload_n 1, 1) := by decide +kernel
theorem dX7_least_29 : decode cX7_least 29 = .ok (.iconst 1, 1) := by decide +kernel
theorem dX7_least_30 : decode cX7_least 30 = .ok (.invokevirtual 148, 3) := by decide +kernel
theorem dX7_least_33 : decode cX7_least 33 = .ok (.ireturn, 1) := by decide +kernel
set_option maxRecDepth 20000 in
theorem ggX7_classes_X7_prepare : GoodIn wsX7_classes wsX7_prepare := goodIn_ca (goodIn_r _ [7, 8, 9, 2, 10, 11, 12, 6, 13, 14, 15, 16, 17, 18, 19, 20, 21, 22, 23, 24, 25, 26, 27, 28, 29, 60, 61, 62, 63, 64, 65, 66, 67, 68, 69, 70, 71, 72, 73, 74, 75, 76, 77, 78, 79, 80, 81, 82] (by decide +kernel) (by decide +kernel)) (goodIn_sub (fun _ h => List.mem_cons_of_mem _ (List.mem_append_right _ h)) (by decide +kernel))
set_option maxRecDepth 20000 in
theorem gX7_classes_X7_prepare : GoodIn wsX7_classes (wsV RX7 145 RX7 yX7_prepare wsX7_prepare) := goodIn_app (goodIn_of _ (by decide +kernel)) ggX7_classes_X7_prepare
set_option maxRecDepth 20000 in
theorem ggX7_classes_X7_countStates : GoodIn wsX7_classes wsX7_countStates := goodIn_r _ [27, 28, 14, 29, 60, 61, 62, 63, 64, 65, 66, 67, 68, 69, 70, 71, 72, 73, 74, 75, 76, 77, 78, 79, 80, 81, 82] (by decide +kernel) (by decide +kernel)
set_option maxRecDepth 20000 in
theorem gX7_classes_X7_countStates : GoodIn wsX7_classes (wsV RX7 93 RX7 yX7_countStates wsX7_countStates) := goodIn_app (goodIn_of _ (by decide +kernel)) ggX7_classes_X7_countStates
set_option maxRecDepth 20000 in
theorem ggX7_classes_X7_markClass : GoodIn wsX7_classes wsX7_markClass := goodIn_ca (goodIn_r _ [33, 34, 2, 8, 9, 35, 36, 37, 6, 38, 28, 39, 40, 41, 42, 16, 43, 44, 45, 46, 47, 29, 14, 48, 49, 50, 51, 52, 53, 54, 55, 56, 57, 58, 59, 60, 61, 62, 63, 64, 65, 66, 67, 68, 69, 70, 71, 72, 73, 74, 75, 76, 77, 78, 79, 80, 81, 82] (by decide +kernel) (by decide +kernel)) (goodIn_sub (fun _ h => List.mem_cons_of_mem _ (List.mem_append_right _ h)) (by decide +kernel))
set_option maxRecDepth 20000 in
theorem gX7_classes_X7_markClass : GoodIn wsX7_classes (wsV RX7 148 RX7 yX7_markClass wsX7_markClass) := goodIn_app (goodIn_of _ (by decide +kernel)) ggX7_classes_X7_markClass
theorem dX7_classes_0 : decode cX7_classes 0 = .ok (.aload_n 0, 1) := by decide +kernel
theorem dX7_classes_1 : decode cX7_classes 1 = .ok (.iconst 0, 1) := by decide +kernel
theorem dX7_classes_2 : decode cX7_classes 2 = .ok (.putfield 58, 3) := by decide +kernel
theorem dX7_classes_5 : decode cX7_classes 5 = .ok (.aload_n 0, 1) := by decide +kernel
theorem dX7_classes_6 : decode cX7_classes 6 = .ok (.invokevirtual 145, 3) := by decide +kernel
theorem dX7_classes_9 : decode cX7_classes 9 = .ok (.iconst 0, 1) := by decide +kernel
theorem dX7_classes_10 : decode cX7_classes 10 = .ok (.istore_n 1, 1) := by decide +kernel
theorem dX7_classes_11 : decode cX7_classes 11 = .ok (.iconst 0, 1) := by decide +kernel
theorem dX7_classes_12 : decode cX7_classes 12 = .ok (.istore_n 2, 1) := by decide +kernel
theorem dX7_classes_13 : decode cX7_classes 13 = .ok (.iload_n 2, 1) := by decide +kernel
theorem dX7_classes_14 : decode cX7_classes 14 = .ok (.aload_n 0, 1) := by decide +kernel
theorem dX7_classes_15 : decode cX7_classes 15 = .ok (.invokevirtual 93, 3) := by decide +kernel
theorem dX7_classes_18 : decode cX7_classes 18 = .ok (.if_icmp .ge 31, 3) := by decide +kernel
theorem dX7_classes_21 : decode cX7_classes 21 = .ok (.aload_n 0, 1) := by decide +kernel
theorem dX7_classes_22 : decode cX7_classes 22 = .ok (.getfield 36, 3) := by decide +kernel
theorem dX7_classes_25 : decode cX7_classes 25 = .ok (.iload_n 2, 1) := by decide +kernel
theorem dX7_classes_26 : decode cX7_classes 26 = .ok (.iaload, 1) := by decide +kernel
theorem dX7_classes_27 : decode cX7_classes 27 = .ok (.ifCond .eq 6, 3) := by decide +kernel
theorem dX7_classes_30 : decode cX7_classes 30 = .ok (.goto 13, 3) := by decide +kernel
theorem dX7_classes_33 : decode cX7_classes 33 = .ok (.aload_n 0, 1) := by decide +kernel
theorem dX7_classes_34 : decode cX7_classes 34 = .ok (.iload_n 2, 1) := by decide +kernel
theorem dX7_classes_35 : decode cX7_classes 35 = .ok (.iconst 1, 1) := by decide +kernel
theorem dX7_classes_36 : decode cX7_classes 36 = .ok (.invokevirtual 148, 3) := by decide +kernel
theorem dX7_classes_39 : decode cX7_classes 39 = .ok (.pop, 1) := by decide +kernel
theorem dX7_classes_40 : decode cX7_classes 40 = .ok (.iinc 1 1, 3) := by decide +kernel
theorem dX7_classes_43 : decode cX7_classes 43 = .ok (.iinc 2 1, 3) := by decide +kernel
theorem dX7_classes_46 : decode cX7_classes 46 = .ok (.goto (-33), 3) := by decide +kernel
theorem dX7_classes_49 : decode cX7_classes 49 = .ok (.iload_n 1, 1) := by decide +kernel
theorem dX7_classes_50 : decode cX7_classes 50 = .ok (.ireturn, 1) := by decide +kernel
set_option maxRecDepth 20000 in
theorem ggX7_byteOf_X7_bitsOf : GoodIn wsX7_byteOf wsX7_bitsOf := goodIn_ca (goodIn_r _ [10, 11, 12, 13, 14, 15, 16, 17, 18, 19, 20, 21, 22, 23, 24, 25, 26, 27, 28, 29, 30, 31, 32, 33, 34] (by decide +kernel) (by decide +kernel)) (goodIn_sub (fun _ h => List.mem_cons_of_mem _ (List.mem_append_right _ h)) (by decide +kernel))
set_option maxRecDepth 20000 in
theorem gX7_byteOf_X7_bitsOf : GoodIn wsX7_byteOf (wsV RX7 129 RX7 yX7_bitsOf wsX7_bitsOf) := goodIn_app (goodIn_of _ (by decide +kernel)) ggX7_byteOf_X7_bitsOf
theorem dX7_byteOf_0 : decode cX7_byteOf 0 = .ok (.iload_n 1, 1) := by decide +kernel
theorem dX7_byteOf_1 : decode cX7_byteOf 1 = .ok (.tableswitch 65 0 5 #[39, 42, 45, 50, 55, 60], 39) := by decide +kernel
theorem dX7_byteOf_40 : decode cX7_byteOf 40 = .ok (.bipush 67, 2) := by decide +kernel
theorem dX7_byteOf_42 : decode cX7_byteOf 42 = .ok (.ireturn, 1) := by decide +kernel
theorem dX7_byteOf_43 : decode cX7_byteOf 43 = .ok (.bipush 84, 2) := by decide +kernel
theorem dX7_byteOf_45 : decode cX7_byteOf 45 = .ok (.ireturn, 1) := by decide +kernel
theorem dX7_byteOf_46 : decode cX7_byteOf 46 = .ok (.aload_n 0, 1) := by decide +kernel
theorem dX7_byteOf_47 : decode cX7_byteOf 47 = .ok (.getfield 51, 3) := by decide +kernel
theorem dX7_byteOf_50 : decode cX7_byteOf 50 = .ok (.ireturn, 1) := by decide +kernel
theorem dX7_byteOf_51 : decode cX7_byteOf 51 = .ok (.aload_n 0, 1) := by decide +kernel
theorem dX7_byteOf_52 : decode cX7_byteOf 52 = .ok (.getfield 55, 3) := by decide +kernel
theorem dX7_byteOf_55 : decode cX7_byteOf 55 = .ok (.ireturn, 1) := by decide +kernel
theorem dX7_byteOf_56 : decode cX7_byteOf 56 = .ok (.aload_n 0, 1) := by decide +kernel
theorem dX7_byteOf_57 : decode cX7_byteOf 57 = .ok (.getfield 83, 3) := by decide +kernel
theorem dX7_byteOf_60 : decode cX7_byteOf 60 = .ok (.ireturn, 1) := by decide +kernel
theorem dX7_byteOf_61 : decode cX7_byteOf 61 = .ok (.aload_n 0, 1) := by decide +kernel
theorem dX7_byteOf_62 : decode cX7_byteOf 62 = .ok (.getfield 126, 3) := by decide +kernel
theorem dX7_byteOf_65 : decode cX7_byteOf 65 = .ok (.ireturn, 1) := by decide +kernel
theorem dX7_byteOf_66 : decode cX7_byteOf 66 = .ok (.iconst 2, 1) := by decide +kernel
theorem dX7_byteOf_67 : decode cX7_byteOf 67 = .ok (.iload_n 1, 1) := by decide +kernel
theorem dX7_byteOf_68 : decode cX7_byteOf 68 = .ok (.bipush 6, 2) := by decide +kernel
theorem dX7_byteOf_70 : decode cX7_byteOf 70 = .ok (.isub, 1) := by decide +kernel
theorem dX7_byteOf_71 : decode cX7_byteOf 71 = .ok (.imul, 1) := by decide +kernel
theorem dX7_byteOf_72 : decode cX7_byteOf 72 = .ok (.istore_n 2, 1) := by decide +kernel
theorem dX7_byteOf_73 : decode cX7_byteOf 73 = .ok (.aload_n 0, 1) := by decide +kernel
theorem dX7_byteOf_74 : decode cX7_byteOf 74 = .ok (.iload_n 2, 1) := by decide +kernel
theorem dX7_byteOf_75 : decode cX7_byteOf 75 = .ok (.iconst 4, 1) := by decide +kernel
theorem dX7_byteOf_76 : decode cX7_byteOf 76 = .ok (.invokevirtual 129, 3) := by decide +kernel
theorem dX7_byteOf_79 : decode cX7_byteOf 79 = .ok (.iload_n 2, 1) := by decide +kernel
theorem dX7_byteOf_80 : decode cX7_byteOf 80 = .ok (.iconst 1, 1) := by decide +kernel
theorem dX7_byteOf_81 : decode cX7_byteOf 81 = .ok (.iadd, 1) := by decide +kernel
theorem dX7_byteOf_82 : decode cX7_byteOf 82 = .ok (.aload_n 0, 1) := by decide +kernel
theorem dX7_byteOf_83 : decode cX7_byteOf 83 = .ok (.getfield 116, 3) := by decide +kernel
theorem dX7_byteOf_86 : decode cX7_byteOf 86 = .ok (.if_icmp .ge 17, 3) := by decide +kernel
theorem dX7_byteOf_89 : decode cX7_byteOf 89 = .ok (.bipush 16, 2) := by decide +kernel
theorem dX7_byteOf_91 : decode cX7_byteOf 91 = .ok (.aload_n 0, 1) := by decide +kernel
theorem dX7_byteOf_92 : decode cX7_byteOf 92 = .ok (.iload_n 2, 1) := by decide +kernel
theorem dX7_byteOf_93 : decode cX7_byteOf 93 = .ok (.iconst 1, 1) := by decide +kernel
theorem dX7_byteOf_94 : decode cX7_byteOf 94 = .ok (.iadd, 1) := by decide +kernel
theorem dX7_byteOf_95 : decode cX7_byteOf 95 = .ok (.iconst 4, 1) := by decide +kernel
theorem dX7_byteOf_96 : decode cX7_byteOf 96 = .ok (.invokevirtual 129, 3) := by decide +kernel
theorem dX7_byteOf_99 : decode cX7_byteOf 99 = .ok (.imul, 1) := by decide +kernel
theorem dX7_byteOf_100 : decode cX7_byteOf 100 = .ok (.goto 4, 3) := by decide +kernel
theorem dX7_byteOf_103 : decode cX7_byteOf 103 = .ok (.iconst 0, 1) := by decide +kernel
theorem dX7_byteOf_104 : decode cX7_byteOf 104 = .ok (.iadd, 1) := by decide +kernel
theorem dX7_byteOf_105 : decode cX7_byteOf 105 = .ok (.ireturn, 1) := by decide +kernel
set_option maxRecDepth 20000 in
theorem ggX7_file_X7_byteOf : GoodIn wsX7_file wsX7_byteOf := goodIn_ca (goodIn_r _ [8, 9, 10, 11, 12, 2, 13, 14, 15, 7, 16, 17, 18, 19, 20, 21, 22, 23, 24, 25, 26, 27, 28, 29, 30, 31, 32, 33, 34, 35, 36, 37, 38, 39, 40] (by decide +kernel) (by decide +kernel)) (goodIn_sub (fun _ h => List.mem_cons_of_mem _ (List.mem_append_right _ h)) (by decide +kernel))
set_option maxRecDepth 20000 in
theorem gX7_file_X7_byteOf : GoodIn wsX7_file (wsV RX7 151 RX7 yX7_byteOf wsX7_byteOf) := goodIn_app (goodIn_of _ (by decide +kernel)) ggX7_file_X7_byteOf
theorem dX7_file_0 : decode cX7_file 0 = .ok (.aload_n 0, 1) := by decide +kernel
theorem dX7_file_1 : decode cX7_file 1 = .ok (.iconst 0, 1) := by decide +kernel
theorem dX7_file_2 : decode cX7_file 2 = .ok (.putfield 58, 3) := by decide +kernel
theorem dX7_file_5 : decode cX7_file 5 = .ok (.bipush 6, 2) := by decide +kernel
theorem dX7_file_7 : decode cX7_file 7 = .ok (.aload_n 0, 1) := by decide +kernel
theorem dX7_file_8 : decode cX7_file 8 = .ok (.getfield 116, 3) := by decide +kernel
theorem dX7_file_11 : decode cX7_file 11 = .ok (.iconst 1, 1) := by decide +kernel
theorem dX7_file_12 : decode cX7_file 12 = .ok (.iadd, 1) := by decide +kernel
theorem dX7_file_13 : decode cX7_file 13 = .ok (.iconst 2, 1) := by decide +kernel
theorem dX7_file_14 : decode cX7_file 14 = .ok (.idiv, 1) := by decide +kernel
theorem dX7_file_15 : decode cX7_file 15 = .ok (.iadd, 1) := by decide +kernel
theorem dX7_file_16 : decode cX7_file 16 = .ok (.istore_n 2, 1) := by decide +kernel
theorem dX7_file_17 : decode cX7_file 17 = .ok (.aload_n 0, 1) := by decide +kernel
theorem dX7_file_18 : decode cX7_file 18 = .ok (.getfield 64, 3) := by decide +kernel
theorem dX7_file_21 : decode cX7_file 21 = .ok (.ifCond .eq 12, 3) := by decide +kernel
theorem dX7_file_24 : decode cX7_file 24 = .ok (.iload_n 1, 1) := by decide +kernel
theorem dX7_file_25 : decode cX7_file 25 = .ok (.ifCond .lt 8, 3) := by decide +kernel
theorem dX7_file_28 : decode cX7_file 28 = .ok (.iload_n 1, 1) := by decide +kernel
theorem dX7_file_29 : decode cX7_file 29 = .ok (.iload_n 2, 1) := by decide +kernel
theorem dX7_file_30 : decode cX7_file 30 = .ok (.if_icmp .le 5, 3) := by decide +kernel
theorem dX7_file_33 : decode cX7_file 33 = .ok (.iconst (-1), 1) := by decide +kernel
theorem dX7_file_34 : decode cX7_file 34 = .ok (.ireturn, 1) := by decide +kernel
theorem dX7_file_35 : decode cX7_file 35 = .ok (.iload_n 1, 1) := by decide +kernel
theorem dX7_file_36 : decode cX7_file 36 = .ok (.iload_n 2, 1) := by decide +kernel
theorem dX7_file_37 : decode cX7_file 37 = .ok (.if_icmp .ge 9, 3) := by decide +kernel
theorem dX7_file_40 : decode cX7_file 40 = .ok (.aload_n 0, 1) := by decide +kernel
theorem dX7_file_41 : decode cX7_file 41 = .ok (.iload_n 1, 1) := by decide +kernel
theorem dX7_file_42 : decode cX7_file 42 = .ok (.invokevirtual 151, 3) := by decide +kernel
theorem dX7_file_45 : decode cX7_file 45 = .ok (.ireturn, 1) := by decide +kernel
theorem dX7_file_46 : decode cX7_file 46 = .ok (.iconst 0, 1) := by decide +kernel
theorem dX7_file_47 : decode cX7_file 47 = .ok (.istore_n 3, 1) := by decide +kernel
theorem dX7_file_48 : decode cX7_file 48 = .ok (.iconst 0, 1) := by decide +kernel
theorem dX7_file_49 : decode cX7_file 49 = .ok (.istore 4, 2) := by decide +kernel
theorem dX7_file_51 : decode cX7_file 51 = .ok (.iload 4, 2) := by decide +kernel
theorem dX7_file_53 : decode cX7_file 53 = .ok (.iload_n 2, 1) := by decide +kernel
theorem dX7_file_54 : decode cX7_file 54 = .ok (.if_icmp .ge 22, 3) := by decide +kernel
theorem dX7_file_57 : decode cX7_file 57 = .ok (.iload_n 3, 1) := by decide +kernel
theorem dX7_file_58 : decode cX7_file 58 = .ok (.aload_n 0, 1) := by decide +kernel
theorem dX7_file_59 : decode cX7_file 59 = .ok (.iload 4, 2) := by decide +kernel
theorem dX7_file_61 : decode cX7_file 61 = .ok (.invokevirtual 151, 3) := by decide +kernel
theorem dX7_file_64 : decode cX7_file 64 = .ok (.iadd, 1) := by decide +kernel
theorem dX7_file_65 : decode cX7_file 65 = .ok (.sipush 251, 3) := by decide +kernel
theorem dX7_file_68 : decode cX7_file 68 = .ok (.irem, 1) := by decide +kernel
theorem dX7_file_69 : decode cX7_file 69 = .ok (.istore_n 3, 1) := by decide +kernel
theorem dX7_file_70 : decode cX7_file 70 = .ok (.iinc 4 1, 3) := by decide +kernel
theorem dX7_file_73 : decode cX7_file 73 = .ok (.goto (-22), 3) := by decide +kernel
theorem dX7_file_76 : decode cX7_file 76 = .ok (.iload_n 3, 1) := by decide +kernel
theorem dX7_file_77 : decode cX7_file 77 = .ok (.ireturn, 1) := by decide +kernel
set_option maxRecDepth 20000 in
theorem ggJ5_init_d00df_J2_newBytesFor_77867 : GoodIn wsJ5_init_d00df wsJ2_newBytesFor_77867 := goodIn_r _ [11, 5, 12, 13, 10, 14, 15] (by decide +kernel) (by decide +kernel)
set_option maxRecDepth 20000 in
theorem gJ5_init_d00df_J2_newBytesFor_77867 : GoodIn wsJ5_init_d00df (va_wsS RJ5 26 yJ2_newBytesFor_77867 wsJ2_newBytesFor_77867) := goodIn_app (goodIn_of _ (by decide +kernel)) ggJ5_init_d00df_J2_newBytesFor_77867
set_option maxRecDepth 20000 in
theorem ggJ5_ensureCapacityInternal_d00df_J5_newCapacity_0f7a4 : GoodIn wsJ5_ensureCapacityInternal_d00df wsJ5_newCapacity_0f7a4 := goodIn_r _ [8, 1, 2, 9, 10, 11, 12, 13, 14, 15, 16, 17, 18, 19, 20, 21, 40, 41, 42, 43] (by decide +kernel) (by decide +kernel)
set_option maxRecDepth 20000 in
theorem gJ5_ensureCapacityInternal_d00df_J5_newCapacity_0f7a4_u104J4 : GoodIn wsJ5_ensureCapacityInternal_d00df (va_wsU RJ5 104 RJ4 "java/lang/AbstractStringBuilder" ⟨"java/lang/AbstractStringBuilder", "newCapacity", "(I)I"⟩ yJ5_newCapacity_0f7a4 wsJ5_newCapacity_0f7a4) := goodIn_app (goodIn_of _ (by decide +kernel)) ggJ5_ensureCapacityInternal_d00df_J5_newCapacity_0f7a4
set_option maxRecDepth 20000 in
theorem ggJ5_ensureCapacityInternal_d00df_J7_copyOf_9075b : GoodIn wsJ5_ensureCapacityInternal_d00df wsJ7_copyOf_9075b := goodIn_r _ [25, 26, 27, 28, 29, 30, 31, 32, 33, 34, 16, 35, 36, 37, 38, 39] (by decide +kernel) (by decide +kernel)
set_option maxRecDepth 20000 in
theorem gJ5_ensureCapacityInternal_d00df_J7_copyOf_9075b : GoodIn wsJ5_ensureCapacityInternal_d00df (va_wsS RJ5 108 yJ7_copyOf_9075b wsJ7_copyOf_9075b) := goodIn_app (goodIn_of _ (by decide +kernel)) ggJ5_ensureCapacityInternal_d00df_J7_copyOf_9075b
set_option maxRecDepth 20000 in
theorem ggJ5_newCapacity_0f7a4_J8_newLength_cabcc : GoodIn wsJ5_newCapacity_0f7a4 wsJ8_newLength_cabcc := goodIn_r _ [7, 8, 9, 10, 11, 12, 13, 14, 6, 15] (by decide +kernel) (by decide +kernel)
set_option maxRecDepth 20000 in
theorem gJ5_newCapacity_0f7a4_J8_newLength_cabcc : GoodIn wsJ5_newCapacity_0f7a4 (va_wsS RJ5 114 yJ8_newLength_cabcc wsJ8_newLength_cabcc) := goodIn_app (goodIn_of _ (by decide +kernel)) ggJ5_newCapacity_0f7a4_J8_newLength_cabcc
set_option maxRecDepth 20000 in
theorem ggJ5_inflate_da8c8_J5_isLatin1_aae02 : GoodIn wsJ5_inflate_da8c8 wsJ5_isLatin1_aae02 := goodIn_r _ [9, 10, 3, 48, 49, 50, 51] (by decide +kernel) (by decide +kernel)
set_option maxRecDepth 20000 in
theorem gJ5_inflate_da8c8_J5_isLatin1_aae02_u83J4 : GoodIn wsJ5_inflate_da8c8 (va_wsU RJ5 83 RJ4 "java/lang/AbstractStringBuilder" ⟨"java/lang/AbstractStringBuilder", "isLatin1", "()Z"⟩ yJ5_isLatin1_aae02 wsJ5_isLatin1_aae02) := goodIn_app (goodIn_of _ (by decide +kernel)) ggJ5_inflate_da8c8_J5_isLatin1_aae02
set_option maxRecDepth 20000 in
theorem ggJ5_inflate_da8c8_J2_newBytesFor_77867 : GoodIn wsJ5_inflate_da8c8 wsJ2_newBytesFor_77867 := goodIn_r _ [14, 15, 16, 17, 13, 18, 19] (by decide +kernel) (by decide +kernel)
set_option maxRecDepth 20000 in
theorem gJ5_inflate_da8c8_J2_newBytesFor_77867 : GoodIn wsJ5_inflate_da8c8 (va_wsS RJ5 26 yJ2_newBytesFor_77867 wsJ2_newBytesFor_77867) := goodIn_app (goodIn_of _ (by decide +kernel)) ggJ5_inflate_da8c8_J2_newBytesFor_77867
set_option maxRecDepth 20000 in
theorem ggJ5_inflate_da8c8_J1_inflate_0e8fd : GoodIn wsJ5_inflate_da8c8 wsJ1_inflate_0e8fd := goodIn_r _ [23, 24, 25, 13, 26, 27, 28, 29, 30, 31, 32, 33, 34, 35, 36, 37, 38, 39, 40, 41, 42, 43, 44, 45, 46, 47] (by decide +kernel) (by decide +kernel)
set_option maxRecDepth 20000 in
theorem gJ5_inflate_da8c8_J1_inflate_0e8fd : GoodIn wsJ5_inflate_da8c8 (va_wsS RJ5 125 yJ1_inflate_0e8fd wsJ1_inflate_0e8fd) := goodIn_app (goodIn_of _ (by decide +kernel)) ggJ5_inflate_da8c8_J1_inflate_0e8fd
set_option maxRecDepth 20000 in
theorem ggJ5_append_cf1ce_J5_appendNull_278bc : GoodIn wsJ5_append_cf1ce wsJ5_appendNull_278bc := goodIn_r _ [7, 1, 8, 9, 10, 11, 12, 6, 13, 14, 15, 16, 17, 18, 19, 20, 21, 22, 23, 24, 25, 26, 27, 28, 29, 30, 31, 32, 33, 34, 35, 36, 37, 38, 39, 40, 41, 42, 43, 44, 45, 46, 47, 48, 49, 50, 51, 52, 53, 54, 55, 56, 57, 58, 59, 60, 61, 62, 63, 64, 65, 66, 67, 68, 69, 70, 71, 72, 73, 74, 75, 76, 77, 78, 79, 80, 81, 138, 139, 140, 141] (by decide +kernel) (by decide +kernel)
set_option maxRecDepth 20000 in
theorem gJ5_append_cf1ce_J5_appendNull_278bc_u204J4 : GoodIn wsJ5_append_cf1ce (va_wsU RJ5 204 RJ4 "java/lang/AbstractStringBuilder" ⟨"java/lang/AbstractStringBuilder", "appendNull", "()Ljava/lang/AbstractStringBuilder;"⟩ yJ5_appendNull_278bc wsJ5_appendNull_278bc) := goodIn_app (goodIn_of _ (by decide +kernel)) ggJ5_append_cf1ce_J5_appendNull_278bc
set_option maxRecDepth 20000 in
theorem ggJ5_append_cf1ce_J0_length_8abf5 : GoodIn wsJ5_append_cf1ce wsJ0_length_8abf5 := goodIn_r _ [85, 86, 87, 88, 89, 70, 90, 91, 92, 142, 143, 144, 145] (by decide +kernel) (by decide +kernel)
set_option maxRecDepth 20000 in
theorem gJ5_append_cf1ce_J0_length_8abf5 : GoodIn wsJ5_append_cf1ce (wsV RJ5 32 RJ0 yJ0_length_8abf5 wsJ0_length_8abf5) := goodIn_app (goodIn_of _ (by decide +kernel)) ggJ5_append_cf1ce_J0_length_8abf5
set_option maxRecDepth 20000 in
theorem ggJ5_append_cf1ce_J5_ensureCapacityInternal_d00df : GoodIn wsJ5_append_cf1ce wsJ5_ensureCapacityInternal_d00df := goodIn_r _ [13, 8, 14, 15, 16, 17, 18, 6, 19, 20, 21, 22, 23, 24, 25, 26, 27, 28, 29, 30, 31, 32, 33, 34, 35, 36, 37, 38, 39, 40, 41, 42, 43, 44, 45, 46, 47, 48, 49, 50, 138, 139, 140, 141] (by decide +kernel) (by decide +kernel)
set_option maxRecDepth 20000 in
theorem gJ5_append_cf1ce_J5_ensureCapacityInternal_d00df_u100J4 : GoodIn wsJ5_append_cf1ce (va_wsU RJ5 100 RJ4 "java/lang/AbstractStringBuilder" ⟨"java/lang/AbstractStringBuilder", "ensureCapacityInternal", "(I)V"⟩ yJ5_ensureCapacityInternal_d00df wsJ5_ensureCapacityInternal_d00df) := goodIn_app (goodIn_of _ (by decide +kernel)) ggJ5_append_cf1ce_J5_ensureCapacityInternal_d00df
set_option maxRecDepth 20000 in
theorem ggJ5_append_cf1ce_J5_putStringAt_47b60 : GoodIn wsJ5_append_cf1ce wsJ5_putStringAt_47b60 := goodIn_r _ [97, 8, 14, 98, 99, 100, 101, 6, 102, 56, 103, 88, 89, 70, 90, 91, 92, 104, 105, 106, 107, 108, 1, 51, 52, 53, 54, 55, 109, 110, 59, 111, 43, 112, 113, 114, 115, 116, 117, 118, 119, 120, 121, 122, 123, 124, 125, 65, 66, 67, 126, 127, 128, 72, 129, 130, 75, 131, 77, 78, 79, 61, 80, 81, 132, 133, 134, 135, 86, 136, 48, 49, 50, 87, 137, 138, 139, 140, 141, 142, 143, 144, 145] (by decide +kernel) (by decide +kernel)
set_option maxRecDepth 20000 in
theorem gJ5_append_cf1ce_J5_putStringAt_47b60_u208J4 : GoodIn wsJ5_append_cf1ce (va_wsU RJ5 208 RJ4 "java/lang/AbstractStringBuilder" ⟨"java/lang/AbstractStringBuilder", "putStringAt", "(ILjava/lang/String;)V"⟩ yJ5_putStringAt_47b60 wsJ5_putStringAt_47b60) := goodIn_app (goodIn_of _ (by decide +kernel)) ggJ5_append_cf1ce_J5_putStringAt_47b60
set_option maxRecDepth 20000 in
theorem ggJ5_appendNull_278bc_J5_ensureCapacityInternal_d00df : GoodIn wsJ5_appendNull_278bc wsJ5_ensureCapacityInternal_d00df := goodIn_r _ [8, 2, 9, 10, 11, 12, 13, 7, 14, 15, 16, 17, 18, 19, 20, 21, 22, 23, 24, 25, 26, 27, 28, 29, 30, 31, 32, 33, 34, 35, 36, 37, 38, 39, 40, 41, 42, 43, 44, 45, 77, 78, 79, 80] (by decide +kernel) (by decide +kernel)
set_option maxRecDepth 20000 in
theorem gJ5_appendNull_278bc_J5_ensureCapacityInternal_d00df_u100J4 : GoodIn wsJ5_appendNull_278bc (va_wsU RJ5 100 RJ4 "java/lang/AbstractStringBuilder" ⟨"java/lang/AbstractStringBuilder", "ensureCapacityInternal", "(I)V"⟩ yJ5_ensureCapacityInternal_d00df wsJ5_ensureCapacityInternal_d00df) := goodIn_app (goodIn_of _ (by decide +kernel)) ggJ5_appendNull_278bc_J5_ensureCapacityInternal_d00df
set_option maxRecDepth 20000 in
theorem ggJ5_appendNull_278bc_J5_isLatin1_aae02 : GoodIn wsJ5_appendNull_278bc wsJ5_isLatin1_aae02 := goodIn_r _ [50, 51, 9, 77, 78, 79, 80] (by decide +kernel) (by decide +kernel)
set_option maxRecDepth 20000 in
theorem gJ5_appendNull_278bc_J5_isLatin1_aae02_u83J4 : GoodIn wsJ5_appendNull_278bc (va_wsU RJ5 83 RJ4 "java/lang/AbstractStringBuilder" ⟨"java/lang/AbstractStringBuilder", "isLatin1", "()Z"⟩ yJ5_isLatin1_aae02 wsJ5_isLatin1_aae02) := goodIn_app (goodIn_of _ (by decide +kernel)) ggJ5_appendNull_278bc_J5_isLatin1_aae02
set_option maxRecDepth 20000 in
theorem ggJ5_appendNull_278bc_J2_putCharsAt_cd4e5 : GoodIn wsJ5_appendNull_278bc wsJ2_putCharsAt_cd4e5 := goodIn_r _ [55, 56, 57, 58, 54, 59, 60, 61, 62, 63, 64, 65, 66, 67, 68, 69, 70, 71, 72, 73, 74, 75, 76] (by decide +kernel) (by decide +kernel)
set_option maxRecDepth 20000 in
theorem gJ5_appendNull_278bc_J2_putCharsAt_cd4e5 : GoodIn wsJ5_appendNull_278bc (va_wsS RJ5 226 yJ2_putCharsAt_cd4e5 wsJ2_putCharsAt_cd4e5) := goodIn_app (goodIn_of _ (by decide +kernel)) ggJ5_appendNull_278bc_J2_putCharsAt_cd4e5
set_option maxRecDepth 20000 in
theorem ggJ5_append_c97b9_J6_stringSize_0f7a4 : GoodIn wsJ5_append_c97b9 wsJ6_stringSize_0f7a4 := goodIn_r _ [6] (by decide +kernel) (by decide +kernel)
set_option maxRecDepth 20000 in
theorem gJ5_append_c97b9_J6_stringSize_0f7a4 : GoodIn wsJ5_append_c97b9 (va_wsS RJ5 245 yJ6_stringSize_0f7a4 wsJ6_stringSize_0f7a4) := goodIn_app (goodIn_of _ (by decide +kernel)) ggJ5_append_c97b9_J6_stringSize_0f7a4
set_option maxRecDepth 20000 in
theorem ggJ5_append_c97b9_J5_ensureCapacityInternal_d00df : GoodIn wsJ5_append_c97b9 wsJ5_ensureCapacityInternal_d00df := goodIn_r _ [12, 2, 13, 14, 15, 16, 17, 11, 18, 19, 20, 21, 22, 23, 24, 25, 26, 27, 28, 29, 30, 31, 32, 33, 34, 35, 36, 37, 38, 39, 40, 41, 42, 43, 44, 45, 46, 47, 48, 49, 91, 92, 93, 94] (by decide +kernel) (by decide +kernel)
set_option maxRecDepth 20000 in
theorem gJ5_append_c97b9_J5_ensureCapacityInternal_d00df_u100J4 : GoodIn wsJ5_append_c97b9 (va_wsU RJ5 100 RJ4 "java/lang/AbstractStringBuilder" ⟨"java/lang/AbstractStringBuilder", "ensureCapacityInternal", "(I)V"⟩ yJ5_ensureCapacityInternal_d00df wsJ5_ensureCapacityInternal_d00df) := goodIn_app (goodIn_of _ (by decide +kernel)) ggJ5_append_c97b9_J5_ensureCapacityInternal_d00df
set_option maxRecDepth 20000 in
theorem ggJ5_append_c97b9_J5_isLatin1_aae02 : GoodIn wsJ5_append_c97b9 wsJ5_isLatin1_aae02 := goodIn_r _ [54, 55, 13, 91, 92, 93, 94] (by decide +kernel) (by decide +kernel)
set_option maxRecDepth 20000 in
theorem gJ5_append_c97b9_J5_isLatin1_aae02_u83J4 : GoodIn wsJ5_append_c97b9 (va_wsU RJ5 83 RJ4 "java/lang/AbstractStringBuilder" ⟨"java/lang/AbstractStringBuilder", "isLatin1", "()Z"⟩ yJ5_isLatin1_aae02 wsJ5_isLatin1_aae02) := goodIn_app (goodIn_of _ (by decide +kernel)) ggJ5_append_c97b9_J5_isLatin1_aae02
set_option maxRecDepth 20000 in
theorem ggJ5_append_c97b9_J6_getChars_ba4f3 : GoodIn wsJ5_append_c97b9 wsJ6_getChars_ba4f3 := goodIn_r _ [58, 59, 60] (by decide +kernel) (by decide +kernel)
set_option maxRecDepth 20000 in
theorem gJ5_append_c97b9_J6_getChars_ba4f3 : GoodIn wsJ5_append_c97b9 (va_wsS RJ5 248 yJ6_getChars_ba4f3 wsJ6_getChars_ba4f3) := goodIn_app (goodIn_of _ (by decide +kernel)) ggJ5_append_c97b9_J6_getChars_ba4f3
set_option maxRecDepth 20000 in
theorem ggJ5_append_c97b9_J2_getChars_46870 : GoodIn wsJ5_append_c97b9 wsJ2_getChars_46870 := goodIn_r _ [64, 65, 66, 67, 63, 68, 69, 70, 71, 72, 73, 74, 75, 76, 77, 78, 79, 80, 81, 82, 83, 84, 85, 86, 87, 88, 89, 90] (by decide +kernel) (by decide +kernel)
set_option maxRecDepth 20000 in
theorem gJ5_append_c97b9_J2_getChars_46870 : GoodIn wsJ5_append_c97b9 (va_wsS RJ5 251 yJ2_getChars_46870 wsJ2_getChars_46870) := goodIn_app (goodIn_of _ (by decide +kernel)) ggJ5_append_c97b9_J2_getChars_46870
set_option maxRecDepth 20000 in
theorem ggJ5_inflateIfNeededFor_a7421_J0_coder_7d493 : GoodIn wsJ5_inflateIfNeededFor_a7421 wsJ0_coder_7d493 := goodIn_r _ [7, 8, 9, 63, 64, 65, 66] (by decide +kernel) (by decide +kernel)
set_option maxRecDepth 20000 in
theorem gJ5_inflateIfNeededFor_a7421_J0_coder_7d493 : GoodIn wsJ5_inflateIfNeededFor_a7421 (wsV RJ5 40 RJ0 yJ0_coder_7d493 wsJ0_coder_7d493) := goodIn_app (goodIn_of _ (by decide +kernel)) ggJ5_inflateIfNeededFor_a7421_J0_coder_7d493
set_option maxRecDepth 20000 in
theorem ggJ5_inflateIfNeededFor_a7421_J5_inflate_da8c8 : GoodIn wsJ5_inflateIfNeededFor_a7421 wsJ5_inflate_da8c8 := goodIn_r _ [15, 16, 17, 2, 18, 19, 20, 21, 14, 22, 1, 23, 24, 25, 26, 27, 28, 29, 30, 31, 32, 33, 34, 35, 36, 37, 38, 39, 40, 41, 42, 43, 44, 45, 46, 6, 47, 48, 49, 50, 51, 52, 53, 54, 55, 56, 57, 58, 59, 60, 61, 62] (by decide +kernel) (by decide +kernel)
set_option maxRecDepth 20000 in
theorem gJ5_inflateIfNeededFor_a7421_J5_inflate_da8c8_u195J4 : GoodIn wsJ5_inflateIfNeededFor_a7421 (va_wsU RJ5 195 RJ4 "java/lang/AbstractStringBuilder" ⟨"java/lang/AbstractStringBuilder", "inflate", "()V"⟩ yJ5_inflate_da8c8 wsJ5_inflate_da8c8) := goodIn_app (goodIn_of _ (by decide +kernel)) ggJ5_inflateIfNeededFor_a7421_J5_inflate_da8c8
set_option maxRecDepth 20000 in
theorem ggJ5_putStringAt_47b60_J5_inflateIfNeededFor_a7421 : GoodIn wsJ5_putStringAt_47b60 wsJ5_inflateIfNeededFor_a7421 := goodIn_r _ [8, 9, 2, 10, 11, 12, 13, 14, 15, 16, 17, 18, 19, 20, 7, 21, 1, 22, 23, 24, 25, 26, 27, 28, 29, 30, 31, 32, 33, 34, 35, 36, 37, 38, 39, 40, 41, 42, 43, 44, 45, 46, 47, 48, 49, 50, 51, 52, 53, 54, 55, 56, 57, 58, 59, 60, 61, 62, 63, 75, 76, 77, 78, 79, 80, 81, 82] (by decide +kernel) (by decide +kernel)
set_option maxRecDepth 20000 in
theorem gJ5_putStringAt_47b60_J5_inflateIfNeededFor_a7421_u397J4 : GoodIn wsJ5_putStringAt_47b60 (va_wsU RJ5 397 RJ4 "java/lang/AbstractStringBuilder" ⟨"java/lang/AbstractStringBuilder", "inflateIfNeededFor", "(Ljava/lang/String;)V"⟩ yJ5_inflateIfNeededFor_a7421 wsJ5_inflateIfNeededFor_a7421) := goodIn_app (goodIn_of _ (by decide +kernel)) ggJ5_putStringAt_47b60_J5_inflateIfNeededFor_a7421
set_option maxRecDepth 20000 in
theorem ggJ5_putStringAt_47b60_J0_getBytes_840e7 : GoodIn wsJ5_putStringAt_47b60 wsJ0_getBytes_840e7 := goodIn_r _ [67, 68, 69, 70, 71, 72, 73, 11, 12, 13, 14, 15, 16, 74, 38, 39, 40, 41, 42, 30, 43, 44, 45, 46, 47, 48, 49, 50, 51, 52, 53, 54, 55, 56, 57, 58, 59, 60, 61, 62, 63, 79, 80, 81, 82] (by decide +kernel) (by decide +kernel)
set_option maxRecDepth 20000 in
theorem gJ5_putStringAt_47b60_J0_getBytes_840e7 : GoodIn wsJ5_putStringAt_47b60 (wsV RJ5 399 RJ0 yJ0_getBytes_840e7 wsJ0_getBytes_840e7) := goodIn_app (goodIn_of _ (by decide +kernel)) ggJ5_putStringAt_47b60_J0_getBytes_840e7
set_option maxRecDepth 20000 in
theorem ggJx00060_init_d00df_J4_init_da8c8 : GoodIn wsJx00060_init_d00df wsJ4_init_da8c8 := goodIn_r _ [6, 7, 8, 9, 10, 11, 12, 13, 14, 15, 16, 17, 18, 19, 20, 21, 22, 23, 24, 25, 236, 237, 238, 239] (by decide +kernel) (by decide +kernel)
set_option maxRecDepth 20000 in
theorem gJx00060_init_d00df_J4_init_da8c8 : GoodIn wsJx00060_init_d00df (wsJ4_init_da8c8) := ggJx00060_init_d00df_J4_init_da8c8
set_option maxRecDepth 20000 in
theorem ggJx00060_init_d00df_J4_append_15ec4 : GoodIn wsJx00060_init_d00df wsJ4_append_15ec4 := goodIn_r _ [29, 30, 31, 32, 33, 9, 34, 35, 36, 37, 38, 39, 40, 16, 41, 42, 43, 44, 45, 17, 46, 47, 48, 49, 50, 51, 52, 53, 54, 55, 56, 57, 58, 59, 60, 61, 62, 63, 64, 65, 66, 67, 68, 69, 70, 71, 72, 73, 15, 74, 75, 76, 77, 78, 79, 80, 81, 82, 83, 84, 85, 14, 86, 87, 20, 88, 89, 90, 91, 92, 93, 94, 95, 96, 97, 98, 99, 100, 101, 102, 103, 104, 105, 106, 107, 108, 109, 110, 111, 112, 113, 114, 115, 116, 117, 118, 119, 120, 121, 122, 123, 124, 125, 126, 127, 128, 129, 130, 131, 132, 133, 134, 135, 136, 18, 19, 21, 22, 23, 24, 25, 137, 138, 139, 140, 141, 142, 143, 144, 145, 146, 147, 148, 149, 150, 151, 152, 153, 154, 155, 156, 157, 158, 236, 237, 238, 239, 240, 241, 242, 243] (by decide +kernel) (by decide +kernel)
set_option maxRecDepth 20000 in
theorem gJx00060_init_d00df_J4_append_15ec4 : GoodIn wsJx00060_init_d00df (wsV RJx00060 15 RJ4 yJ4_append_15ec4 wsJ4_append_15ec4) := goodIn_app (goodIn_of _ (by decide +kernel)) ggJx00060_init_d00df_J4_append_15ec4
set_option maxRecDepth 20000 in
theorem ggJx00060_init_d00df_J4_append_bf812 : GoodIn wsJx00060_init_d00df wsJ4_append_bf812 := goodIn_r _ [162, 163, 164, 32, 165, 9, 166, 35, 16, 167, 168, 169, 170, 41, 42, 43, 44, 45, 17, 46, 47, 48, 49, 50, 51, 52, 53, 54, 55, 56, 57, 58, 59, 60, 61, 62, 63, 64, 65, 66, 67, 68, 69, 70, 71, 72, 73, 15, 74, 75, 76, 77, 78, 79, 80, 81, 82, 83, 84, 85, 14, 171, 172, 173, 174, 175, 176, 177, 20, 178, 89, 90, 91, 92, 93, 94, 95, 96, 97, 98, 99, 100, 101, 102, 103, 104, 179, 180, 181, 182, 183, 105, 106, 107, 108, 109, 236, 237, 238, 239] (by decide +kernel) (by decide +kernel)
set_option maxRecDepth 20000 in
theorem gJx00060_init_d00df_J4_append_bf812 : GoodIn wsJx00060_init_d00df (wsV RJx00060 19 RJ4 yJ4_append_bf812 wsJ4_append_bf812) := goodIn_app (goodIn_of _ (by decide +kernel)) ggJx00060_init_d00df_J4_append_bf812
set_option maxRecDepth 20000 in
theorem ggJx00060_init_d00df_J4_toString_0e30d : GoodIn wsJx00060_init_d00df wsJ4_toString_0e30d := goodIn_r _ [187, 188, 189, 98, 190, 191, 192, 193, 194, 195, 196, 12, 13, 120, 114, 119, 197, 198, 199, 200, 201, 9, 202, 16, 203, 204, 205, 206, 207, 3, 208, 209, 32, 210, 211, 35, 212, 82, 83, 84, 85, 14, 17, 213, 214, 66, 215, 68, 69, 70, 71, 72, 73, 216, 217, 218, 15, 74, 75, 58, 76, 77, 78, 79, 80, 219, 220, 221, 222, 2, 223, 224, 20, 225, 226, 227, 228, 144, 145, 146, 93, 94, 95, 147, 148, 149, 100, 150, 151, 103, 152, 229, 230, 231, 89, 108, 109, 22, 23, 24, 25, 232, 233, 234, 235, 240, 241, 242, 243, 236, 237, 238, 239] (by decide +kernel) (by decide +kernel)
set_option maxRecDepth 20000 in
theorem gJx00060_init_d00df_J4_toString_0e30d : GoodIn wsJx00060_init_d00df (wsV RJx00060 22 RJ4 yJ4_toString_0e30d wsJ4_toString_0e30d) := goodIn_app (goodIn_of _ (by decide +kernel)) ggJx00060_init_d00df_J4_toString_0e30d
theorem dJ6_bitCount_0f7a4_0 : decode cJ6_bitCount_0f7a4 0 = .ok (.iload_n 0, 1) := by decide +kernel
theorem dJ6_bitCount_0f7a4_1 : decode cJ6_bitCount_0f7a4 1 = .ok (.iload_n 0, 1) := by decide +kernel
theorem dJ6_bitCount_0f7a4_2 : decode cJ6_bitCount_0f7a4 2 = .ok (.iconst 1, 1) := by decide +kernel
theorem dJ6_bitCount_0f7a4_3 : decode cJ6_bitCount_0f7a4 3 = .ok (.iushr, 1) := by decide +kernel
theorem dJ6_bitCount_0f7a4_4 : decode cJ6_bitCount_0f7a4 4 = .ok (.ldc_w 265, 3) := by decide +kernel
theorem dJ6_bitCount_0f7a4_7 : decode cJ6_bitCount_0f7a4 7 = .ok (.iand, 1) := by decide +kernel
theorem dJ6_bitCount_0f7a4_8 : decode cJ6_bitCount_0f7a4 8 = .ok (.isub, 1) := by decide +kernel
theorem dJ6_bitCount_0f7a4_9 : decode cJ6_bitCount_0f7a4 9 = .ok (.istore_n 0, 1) := by decide +kernel
theorem dJ6_bitCount_0f7a4_10 : decode cJ6_bitCount_0f7a4 10 = .ok (.iload_n 0, 1) := by decide +kernel
theorem dJ6_bitCount_0f7a4_11 : decode cJ6_bitCount_0f7a4 11 = .ok (.ldc_w 266, 3) := by decide +kernel
theorem dJ6_bitCount_0f7a4_14 : decode cJ6_bitCount_0f7a4 14 = .ok (.iand, 1) := by decide +kernel
theorem dJ6_bitCount_0f7a4_15 : decode cJ6_bitCount_0f7a4 15 = .ok (.iload_n 0, 1) := by decide +kernel
theorem dJ6_bitCount_0f7a4_16 : decode cJ6_bitCount_0f7a4 16 = .ok (.iconst 2, 1) := by decide +kernel
theorem dJ6_bitCount_0f7a4_17 : decode cJ6_bitCount_0f7a4 17 = .ok (.iushr, 1) := by decide +kernel
theorem dJ6_bitCount_0f7a4_18 : decode cJ6_bitCount_0f7a4 18 = .ok (.ldc_w 266, 3) := by decide +kernel
theorem dJ6_bitCount_0f7a4_21 : decode cJ6_bitCount_0f7a4 21 = .ok (.iand, 1) := by decide +kernel
theorem dJ6_bitCount_0f7a4_22 : decode cJ6_bitCount_0f7a4 22 = .ok (.iadd, 1) := by decide +kernel
theorem dJ6_bitCount_0f7a4_23 : decode cJ6_bitCount_0f7a4 23 = .ok (.istore_n 0, 1) := by decide +kernel
theorem dJ6_bitCount_0f7a4_24 : decode cJ6_bitCount_0f7a4 24 = .ok (.iload_n 0, 1) := by decide +kernel
theorem dJ6_bitCount_0f7a4_25 : decode cJ6_bitCount_0f7a4 25 = .ok (.iload_n 0, 1) := by decide +kernel
theorem dJ6_bitCount_0f7a4_26 : decode cJ6_bitCount_0f7a4 26 = .ok (.iconst 4, 1) := by decide +kernel
theorem dJ6_bitCount_0f7a4_27 : decode cJ6_bitCount_0f7a4 27 = .ok (.iushr, 1) := by decide +kernel
theorem dJ6_bitCount_0f7a4_28 : decode cJ6_bitCount_0f7a4 28 = .ok (.iadd, 1) := by decide +kernel
theorem dJ6_bitCount_0f7a4_29 : decode cJ6_bitCount_0f7a4 29 = .ok (.ldc_w 267, 3) := by decide +kernel
theorem dJ6_bitCount_0f7a4_32 : decode cJ6_bitCount_0f7a4 32 = .ok (.iand, 1) := by decide +kernel
theorem dJ6_bitCount_0f7a4_33 : decode cJ6_bitCount_0f7a4 33 = .ok (.istore_n 0, 1) := by decide +kernel
theorem dJ6_bitCount_0f7a4_34 : decode cJ6_bitCount_0f7a4 34 = .ok (.iload_n 0, 1) := by decide +kernel
theorem dJ6_bitCount_0f7a4_35 : decode cJ6_bitCount_0f7a4 35 = .ok (.iload_n 0, 1) := by decide +kernel
theorem dJ6_bitCount_0f7a4_36 : decode cJ6_bitCount_0f7a4 36 = .ok (.bipush 8, 2) := by decide +kernel
theorem dJ6_bitCount_0f7a4_38 : decode cJ6_bitCount_0f7a4 38 = .ok (.iushr, 1) := by decide +kernel
theorem dJ6_bitCount_0f7a4_39 : decode cJ6_bitCount_0f7a4 39 = .ok (.iadd, 1) := by decide +kernel
theorem dJ6_bitCount_0f7a4_40 : decode cJ6_bitCount_0f7a4 40 = .ok (.istore_n 0, 1) := by decide +kernel
theorem dJ6_bitCount_0f7a4_41 : decode cJ6_bitCount_0f7a4 41 = .ok (.iload_n 0, 1) := by decide +kernel
theorem dJ6_bitCount_0f7a4_42 : decode cJ6_bitCount_0f7a4 42 = .ok (.iload_n 0, 1) := by decide +kernel
theorem dJ6_bitCount_0f7a4_43 : decode cJ6_bitCount_0f7a4 43 = .ok (.bipush 16, 2) := by decide +kernel
theorem dJ6_bitCount_0f7a4_45 : decode cJ6_bitCount_0f7a4 45 = .ok (.iushr, 1) := by decide +kernel
theorem dJ6_bitCount_0f7a4_46 : decode cJ6_bitCount_0f7a4 46 = .ok (.iadd, 1) := by decide +kernel
theorem dJ6_bitCount_0f7a4_47 : decode cJ6_bitCount_0f7a4 47 = .ok (.istore_n 0, 1) := by decide +kernel
theorem dJ6_bitCount_0f7a4_48 : decode cJ6_bitCount_0f7a4 48 = .ok (.iload_n 0, 1) := by decide +kernel
theorem dJ6_bitCount_0f7a4_49 : decode cJ6_bitCount_0f7a4 49 = .ok (.bipush 63, 2) := by decide +kernel
theorem dJ6_bitCount_0f7a4_51 : decode cJ6_bitCount_0f7a4 51 = .ok (.iand, 1) := by decide +kernel
theorem dJ6_bitCount_0f7a4_52 : decode cJ6_bitCount_0f7a4 52 = .ok (.ireturn, 1) := by decide +kernel
theorem dJ9_max_7cf53_0 : decode cJ9_max_7cf53 0 = .ok (.iload_n 0, 1) := by decide +kernel
theorem dJ9_max_7cf53_1 : decode cJ9_max_7cf53 1 = .ok (.iload_n 1, 1) := by decide +kernel
theorem dJ9_max_7cf53_2 : decode cJ9_max_7cf53 2 = .ok (.if_icmp .lt 7, 3) := by decide +kernel
theorem dJ9_max_7cf53_5 : decode cJ9_max_7cf53 5 = .ok (.iload_n 0, 1) := by decide +kernel
theorem dJ9_max_7cf53_6 : decode cJ9_max_7cf53 6 = .ok (.goto 4, 3) := by decide +kernel
theorem dJ9_max_7cf53_9 : decode cJ9_max_7cf53 9 = .ok (.iload_n 1, 1) := by decide +kernel
theorem dJ9_max_7cf53_10 : decode cJ9_max_7cf53 10 = .ok (.ireturn, 1) := by decide +kernel
theorem dJ9_min_7cf53_0 : decode cJ9_min_7cf53 0 = .ok (.iload_n 0, 1) := by decide +kernel
theorem dJ9_min_7cf53_1 : decode cJ9_min_7cf53 1 = .ok (.iload_n 1, 1) := by decide +kernel
theorem dJ9_min_7cf53_2 : decode cJ9_min_7cf53 2 = .ok (.if_icmp .gt 7, 3) := by decide +kernel
theorem dJ9_min_7cf53_5 : decode cJ9_min_7cf53 5 = .ok (.iload_n 0, 1) := by decide +kernel
theorem dJ9_min_7cf53_6 : decode cJ9_min_7cf53 6 = .ok (.goto 4, 3) := by decide +kernel
theorem dJ9_min_7cf53_9 : decode cJ9_min_7cf53 9 = .ok (.iload_n 1, 1) := by decide +kernel
theorem dJ9_min_7cf53_10 : decode cJ9_min_7cf53 10 = .ok (.ireturn, 1) := by decide +kernel
set_option maxRecDepth 20000 in
theorem ggJ0_init_81219_J0_init_db425 : GoodIn wsJ0_init_81219 wsJ0_init_db425 := goodIn_r _ [4, 5, 6, 7, 8, 9, 10, 11, 12, 13, 14, 15, 16, 17, 18, 19, 20, 21, 22, 23, 24, 25, 26, 27, 28, 29, 30, 31, 32, 33, 34, 35, 36, 37, 38, 39, 40, 41, 42, 43, 44, 45, 46, 47, 48, 49, 50, 51, 52, 53, 54, 55, 56, 57, 58, 59, 60, 61, 62, 63, 64, 65, 66, 67, 68, 69, 70, 71, 72, 73, 74, 75, 76, 77, 78, 79, 3, 80, 81, 82, 83, 84, 85, 86, 87, 88, 89, 90, 91, 92, 93, 94, 95, 96, 97, 98, 99, 100, 101, 102, 103, 104, 105, 106, 107] (by decide +kernel) (by decide +kernel)
set_option maxRecDepth 20000 in
theorem gJ0_init_81219_J0_init_db425 : GoodIn wsJ0_init_81219 (wsJ0_init_db425) := ggJ0_init_81219_J0_init_db425
set_option maxRecDepth 20000 in
theorem ggJ0_length_8abf5_J0_coder_7d493 : GoodIn wsJ0_length_8abf5 wsJ0_coder_7d493 := goodIn_r _ [6, 7, 8, 9, 10, 11, 12] (by decide +kernel) (by decide +kernel)
set_option maxRecDepth 20000 in
theorem gJ0_length_8abf5_J0_coder_7d493 : GoodIn wsJ0_length_8abf5 (wsV RJ0 335 RJ0 yJ0_coder_7d493 wsJ0_coder_7d493) := goodIn_app (goodIn_of _ (by decide +kernel)) ggJ0_length_8abf5_J0_coder_7d493
set_option maxRecDepth 20000 in
theorem ggJ0_getBytes_840e7_J0_coder_7d493 : GoodIn wsJ0_getBytes_840e7 wsJ0_coder_7d493 := goodIn_r _ [10, 11, 12, 41, 42, 43, 44] (by decide +kernel) (by decide +kernel)
set_option maxRecDepth 20000 in
theorem gJ0_getBytes_840e7_J0_coder_7d493 : GoodIn wsJ0_getBytes_840e7 (wsV RJ0 335 RJ0 yJ0_coder_7d493 wsJ0_coder_7d493) := goodIn_app (goodIn_of _ (by decide +kernel)) ggJ0_getBytes_840e7_J0_coder_7d493
set_option maxRecDepth 20000 in
theorem ggJ0_getBytes_840e7_J1_inflate_0e8fd : GoodIn wsJ0_getBytes_840e7 wsJ1_inflate_0e8fd := goodIn_r _ [16, 17, 18, 19, 20, 21, 22, 23, 24, 25, 26, 27, 28, 9, 29, 30, 31, 32, 33, 34, 35, 36, 37, 38, 39, 40] (by decide +kernel) (by decide +kernel)
set_option maxRecDepth 20000 in
theorem gJ0_getBytes_840e7_J1_inflate_0e8fd : GoodIn wsJ0_getBytes_840e7 (va_wsS RJ0 106 yJ1_inflate_0e8fd wsJ1_inflate_0e8fd) := goodIn_app (goodIn_of _ (by decide +kernel)) ggJ0_getBytes_840e7_J1_inflate_0e8fd
set_option maxRecDepth 20000 in
theorem ggJ0_init_db425_J5_getValue_6d5f1 : GoodIn wsJ0_init_db425 wsJ5_getValue_6d5f1 := goodIn_r _ [13, 14, 101, 102, 103, 104] (by decide +kernel) (by decide +kernel)
set_option maxRecDepth 20000 in
theorem gJ0_init_db425_J5_getValue_6d5f1_u552J4 : GoodIn wsJ0_init_db425 (va_wsU RJ0 552 RJ4 "java/lang/AbstractStringBuilder" ⟨"java/lang/AbstractStringBuilder", "getValue", "()[B"⟩ yJ5_getValue_6d5f1 wsJ5_getValue_6d5f1) := goodIn_app (goodIn_of _ (by decide +kernel)) ggJ0_init_db425_J5_getValue_6d5f1
set_option maxRecDepth 20000 in
theorem ggJ0_init_db425_J4_length_8abf5 : GoodIn wsJ0_init_db425 wsJ4_length_8abf5 := goodIn_r _ [21, 22, 16, 23, 24, 12, 25, 26, 101, 102, 103, 104] (by decide +kernel) (by decide +kernel)
set_option maxRecDepth 20000 in
theorem gJ0_init_db425_J4_length_8abf5_u549J4 : GoodIn wsJ0_init_db425 (va_wsO RJ0 549 RJ4 "java/lang/AbstractStringBuilder" ⟨"java/lang/AbstractStringBuilder", "length", "()I"⟩ yJ4_length_8abf5 wsJ4_length_8abf5) := goodIn_app (goodIn_of _ (by decide +kernel)) ggJ0_init_db425_J4_length_8abf5
set_option maxRecDepth 20000 in
theorem ggJ0_init_db425_J5_isLatin1_aae02 : GoodIn wsJ0_init_db425 wsJ5_isLatin1_aae02 := goodIn_r _ [31, 32, 33, 101, 102, 103, 104] (by decide +kernel) (by decide +kernel)
set_option maxRecDepth 20000 in
theorem gJ0_init_db425_J5_isLatin1_aae02_u1047J4 : GoodIn wsJ0_init_db425 (va_wsU RJ0 1047 RJ4 "java/lang/AbstractStringBuilder" ⟨"java/lang/AbstractStringBuilder", "isLatin1", "()Z"⟩ yJ5_isLatin1_aae02 wsJ5_isLatin1_aae02) := goodIn_app (goodIn_of _ (by decide +kernel)) ggJ0_init_db425_J5_isLatin1_aae02
set_option maxRecDepth 20000 in
theorem ggJ0_init_db425_J7_copyOfRange_39247 : GoodIn wsJ0_init_db425 wsJ7_copyOfRange_39247 := goodIn_r _ [37, 38, 39, 40, 41, 42, 43, 44, 45, 36, 46, 47, 48, 49, 50, 51, 52, 53, 54, 55, 56, 57, 58, 59, 60, 20, 101, 102, 103, 104] (by decide +kernel) (by decide +kernel)
set_option maxRecDepth 20000 in
theorem gJ0_init_db425_J7_copyOfRange_39247 : GoodIn wsJ0_init_db425 (va_wsS RJ0 54 yJ7_copyOfRange_39247 wsJ7_copyOfRange_39247) := goodIn_app (goodIn_of _ (by decide +kernel)) ggJ0_init_db425_J7_copyOfRange_39247
set_option maxRecDepth 20000 in
theorem ggJ0_init_db425_J2_compress_39247 : GoodIn wsJ0_init_db425 wsJ2_compress_39247 := goodIn_r _ [64, 47, 65, 66, 63, 67, 68, 69, 70, 71, 72, 73, 74, 75, 76, 77, 78, 79, 80, 81, 82, 83, 84, 85, 86, 87, 88, 89, 90, 91, 92, 93, 35, 36, 37, 38, 39, 40, 41, 42, 43, 44, 45, 46, 48, 49, 50, 51, 52, 53, 54, 55, 56, 57, 58, 59, 60, 20, 101, 102, 103, 104] (by decide +kernel) (by decide +kernel)
set_option maxRecDepth 20000 in
theorem gJ0_init_db425_J2_compress_39247 : GoodIn wsJ0_init_db425 (va_wsS RJ0 1051 yJ2_compress_39247 wsJ2_compress_39247) := goodIn_app (goodIn_of _ (by decide +kernel)) ggJ0_init_db425_J2_compress_39247
set_option maxRecDepth 20000 in
theorem ggJ0_init_db425_J2_coderFromArrayLen_85cad : GoodIn wsJ0_init_db425 wsJ2_coderFromArrayLen_85cad := goodIn_r _ [96] (by decide +kernel) (by decide +kernel)
set_option maxRecDepth 20000 in
theorem gJ0_init_db425_J2_coderFromArrayLen_85cad : GoodIn wsJ0_init_db425 (va_wsS RJ0 47 yJ2_coderFromArrayLen_85cad wsJ2_coderFromArrayLen_85cad) := goodIn_app (goodIn_of _ (by decide +kernel)) ggJ0_init_db425_J2_coderFromArrayLen_85cad
set_option maxRecDepth 20000 in
theorem ggJ0_checkBoundsOffCount_cabcc_J3_checkFromIndexSize_8c36e : GoodIn wsJ0_checkBoundsOffCount_cabcc wsJ3_checkFromIndexSize_8c36e := goodIn_r _ [5] (by decide +kernel) (by decide +kernel)
set_option maxRecDepth 20000 in
theorem gJ0_checkBoundsOffCount_cabcc_J3_checkFromIndexSize_8c36e : GoodIn wsJ0_checkBoundsOffCount_cabcc (va_wsS RJ0 1065 yJ3_checkFromIndexSize_8c36e wsJ3_checkFromIndexSize_8c36e) := goodIn_app (goodIn_of _ (by decide +kernel)) ggJ0_checkBoundsOffCount_cabcc_J3_checkFromIndexSize_8c36e
set_option maxRecDepth 20000 in
theorem ggJ0_checkBoundsBeginEnd_23922_J3_checkFromToIndex_8c36e : GoodIn wsJ0_checkBoundsBeginEnd_23922 wsJ3_checkFromToIndex_8c36e := goodIn_r _ [5] (by decide +kernel) (by decide +kernel)
set_option maxRecDepth 20000 in
theorem gJ0_checkBoundsBeginEnd_23922_J3_checkFromToIndex_8c36e : GoodIn wsJ0_checkBoundsBeginEnd_23922 (va_wsS RJ0 1062 yJ3_checkFromToIndex_8c36e wsJ3_checkFromToIndex_8c36e) := goodIn_app (goodIn_of _ (by decide +kernel)) ggJ0_checkBoundsBeginEnd_23922_J3_checkFromToIndex_8c36e
set_option maxRecDepth 20000 in
theorem ggJ4_init_da8c8_J5_init_d00df : GoodIn wsJ4_init_da8c8 wsJ5_init_d00df := goodIn_r _ [4, 5, 6, 7, 8, 9, 10, 11, 12, 13, 14, 15, 16, 17, 18, 19, 20, 21, 22, 23] (by decide +kernel) (by decide +kernel)
set_option maxRecDepth 20000 in
theorem gJ4_init_da8c8_J5_init_d00df : GoodIn wsJ4_init_da8c8 (wsJ5_init_d00df) := ggJ4_init_da8c8_J5_init_d00df
set_option maxRecDepth 20000 in
theorem ggJ4_append_15ec4_J5_append_cf1ce : GoodIn wsJ4_append_15ec4 wsJ5_append_cf1ce := goodIn_r _ [6, 7, 8, 9, 10, 11, 5, 12, 13, 14, 15, 16, 17, 18, 19, 20, 21, 22, 23, 24, 25, 26, 27, 28, 29, 30, 31, 32, 33, 34, 35, 36, 37, 38, 39, 40, 41, 42, 43, 44, 45, 46, 47, 48, 49, 50, 51, 52, 53, 54, 55, 56, 57, 58, 59, 60, 61, 62, 63, 64, 65, 66, 67, 68, 69, 70, 71, 72, 73, 74, 75, 76, 77, 78, 79, 80, 81, 82, 83, 84, 85, 86, 87, 88, 89, 90, 91, 92, 93, 94, 95, 96, 97, 98, 99, 100, 101, 102, 103, 104, 105, 106, 107, 108, 109, 110, 111, 112, 113, 114, 115, 116, 117, 118, 119, 120, 121, 122, 123, 124, 125, 126, 127, 128, 129, 130, 131, 132, 133, 134, 135, 136, 137, 138, 139, 140, 141, 142, 143, 144, 145, 146, 147, 148, 149, 150] (by decide +kernel) (by decide +kernel)
set_option maxRecDepth 20000 in
theorem gJ4_append_15ec4_J5_append_cf1ce_s29 : GoodIn wsJ4_append_15ec4 (va_wsSU RJ4 29 yJ5_append_cf1ce wsJ5_append_cf1ce) := goodIn_app (goodIn_of _ (by decide +kernel)) ggJ4_append_15ec4_J5_append_cf1ce
set_option maxRecDepth 20000 in
theorem ggJ4_append_bf812_J5_append_c97b9 : GoodIn wsJ4_append_bf812 wsJ5_append_c97b9 := goodIn_r _ [6, 7, 8, 9, 10, 11, 12, 13, 14, 15, 16, 5, 17, 18, 19, 20, 21, 22, 23, 24, 25, 26, 27, 28, 29, 30, 31, 32, 33, 34, 35, 36, 37, 38, 39, 40, 41, 42, 43, 44, 45, 46, 47, 48, 49, 50, 51, 52, 53, 54, 55, 56, 57, 58, 59, 60, 61, 62, 63, 64, 65, 66, 67, 68, 69, 70, 71, 72, 73, 74, 75, 76, 77, 78, 79, 80, 81, 82, 83, 84, 85, 86, 87, 88, 89, 90, 91, 92, 93, 94, 95, 96, 97, 98, 99] (by decide +kernel) (by decide +kernel)
set_option maxRecDepth 20000 in
theorem gJ4_append_bf812_J5_append_c97b9_s53 : GoodIn wsJ4_append_bf812 (va_wsSU RJ4 53 yJ5_append_c97b9 wsJ5_append_c97b9) := goodIn_app (goodIn_of _ (by decide +kernel)) ggJ4_append_bf812_J5_append_c97b9
set_option maxRecDepth 20000 in
theorem ggJ4_toString_0e30d_J0_init_81219 : GoodIn wsJ4_toString_0e30d wsJ0_init_81219 := goodIn_r _ [6, 7, 8, 3, 9, 10, 11, 12, 13, 14, 15, 16, 17, 18, 19, 20, 21, 22, 23, 24, 25, 26, 27, 28, 29, 30, 31, 32, 33, 34, 35, 36, 37, 38, 39, 40, 41, 42, 43, 44, 45, 46, 47, 48, 49, 50, 51, 52, 53, 54, 55, 56, 57, 58, 59, 60, 61, 62, 63, 64, 65, 66, 67, 68, 69, 70, 71, 72, 73, 74, 75, 76, 77, 78, 79, 80, 81, 82, 83, 84, 85, 86, 87, 88, 89, 90, 91, 92, 93, 94, 95, 96, 97, 98, 99, 100, 101, 102, 103, 104, 105, 106, 107, 108, 109, 110, 111, 112] (by decide +kernel) (by decide +kernel)
set_option maxRecDepth 20000 in
theorem gJ4_toString_0e30d_J0_init_81219 : GoodIn wsJ4_toString_0e30d (wsJ0_init_81219) := ggJ4_toString_0e30d_J0_init_81219
set_option maxRecDepth 20000 in
theorem ggJ4_length_8abf5_J5_length_8abf5 : GoodIn wsJ4_length_8abf5 wsJ5_length_8abf5 := goodIn_r _ [6, 7, 8, 9, 10, 11] (by decide +kernel) (by decide +kernel)
set_option maxRecDepth 20000 in
theorem gJ4_length_8abf5_J5_length_8abf5_s343 : GoodIn wsJ4_length_8abf5 (va_wsSU RJ4 343 yJ5_length_8abf5 wsJ5_length_8abf5) := goodIn_app (goodIn_of _ (by decide +kernel)) ggJ4_length_8abf5_J5_length_8abf5
set_option maxRecDepth 20000 in
theorem ggJ1_inflate_0e8fd_J2_inflate_0e8fd : GoodIn wsJ1_inflate_0e8fd wsJ2_inflate_0e8fd := goodIn_r _ [4, 5, 6, 3, 7, 8, 9, 10, 11, 12, 13, 14, 15, 16, 17, 18, 19, 20, 21, 22, 23, 24, 25] (by decide +kernel) (by decide +kernel)
set_option maxRecDepth 20000 in
theorem gJ1_inflate_0e8fd_J2_inflate_0e8fd : GoodIn wsJ1_inflate_0e8fd (va_wsS RJ1 240 yJ2_inflate_0e8fd wsJ2_inflate_0e8fd) := goodIn_app (goodIn_of _ (by decide +kernel)) ggJ1_inflate_0e8fd_J2_inflate_0e8fd
set_option maxRecDepth 20000 in
theorem ggJ2_newBytesFor_77867_J2_newBytesLength_0f7a4 : GoodIn wsJ2_newBytesFor_77867 wsJ2_newBytesLength_0f7a4 := goodIn_r _ [5, 6] (by decide +kernel) (by decide +kernel)
set_option maxRecDepth 20000 in
theorem gJ2_newBytesFor_77867_J2_newBytesLength_0f7a4 : GoodIn wsJ2_newBytesFor_77867 (va_wsS RJ2 11 yJ2_newBytesLength_0f7a4 wsJ2_newBytesLength_0f7a4) := goodIn_app (goodIn_of _ (by decide +kernel)) ggJ2_newBytesFor_77867_J2_newBytesLength_0f7a4
set_option maxRecDepth 20000 in
theorem ggJ2_putChar_b72d1_J2_length_9d52b : GoodIn wsJ2_putChar_b72d1 wsJ2_length_9d52b := goodIn_r _ [7] (by decide +kernel) (by decide +kernel)
set_option maxRecDepth 20000 in
theorem gJ2_putChar_b72d1_J2_length_9d52b : GoodIn wsJ2_putChar_b72d1 (va_wsS RJ2 48 yJ2_length_9d52b wsJ2_length_9d52b) := goodIn_app (goodIn_of _ (by decide +kernel)) ggJ2_putChar_b72d1_J2_length_9d52b
set_option maxRecDepth 20000 in
theorem ggJ2_getChar_3b067_J2_length_9d52b : GoodIn wsJ2_getChar_3b067 wsJ2_length_9d52b := goodIn_r _ [7] (by decide +kernel) (by decide +kernel)
set_option maxRecDepth 20000 in
theorem gJ2_getChar_3b067_J2_length_9d52b : GoodIn wsJ2_getChar_3b067 (va_wsS RJ2 48 yJ2_length_9d52b wsJ2_length_9d52b) := goodIn_app (goodIn_of _ (by decide +kernel)) ggJ2_getChar_3b067_J2_length_9d52b
set_option maxRecDepth 20000 in
theorem ggJ2_compress_39247_J2_compress_5af95 : GoodIn wsJ2_compress_39247 wsJ2_compress_5af95 := goodIn_r _ [5, 6, 7, 4, 8, 9, 10, 11, 12, 13, 14, 15, 16, 17, 18, 19, 20, 21, 22, 23, 24, 25, 26] (by decide +kernel) (by decide +kernel)
set_option maxRecDepth 20000 in
theorem gJ2_compress_39247_J2_compress_5af95 : GoodIn wsJ2_compress_39247 (va_wsS RJ2 123 yJ2_compress_5af95 wsJ2_compress_5af95) := goodIn_app (goodIn_of _ (by decide +kernel)) ggJ2_compress_39247_J2_compress_5af95
set_option maxRecDepth 20000 in
theorem ggJ2_compress_39247_J2_newBytesLength_0f7a4 : GoodIn wsJ2_compress_39247 wsJ2_newBytesLength_0f7a4 := goodIn_r _ [29, 30] (by decide +kernel) (by decide +kernel)
set_option maxRecDepth 20000 in
theorem gJ2_compress_39247_J2_newBytesLength_0f7a4 : GoodIn wsJ2_compress_39247 (va_wsS RJ2 11 yJ2_newBytesLength_0f7a4 wsJ2_newBytesLength_0f7a4) := goodIn_app (goodIn_of _ (by decide +kernel)) ggJ2_compress_39247_J2_newBytesLength_0f7a4
set_option maxRecDepth 20000 in
theorem ggJ2_compress_39247_J7_copyOfRange_39247 : GoodIn wsJ2_compress_39247 wsJ7_copyOfRange_39247 := goodIn_r _ [34, 35, 36, 37, 38, 39, 40, 41, 42, 33, 43, 1, 44, 45, 46, 47, 48, 49, 50, 51, 52, 53, 54, 55, 56, 57, 58, 59, 60, 61] (by decide +kernel) (by decide +kernel)
set_option maxRecDepth 20000 in
theorem gJ2_compress_39247_J7_copyOfRange_39247 : GoodIn wsJ2_compress_39247 (va_wsS RJ2 126 yJ7_copyOfRange_39247 wsJ7_copyOfRange_39247) := goodIn_app (goodIn_of _ (by decide +kernel)) ggJ2_compress_39247_J7_copyOfRange_39247
set_option maxRecDepth 20000 in
theorem ggJ2_compress_39247_J2_getChar_3b067 : GoodIn wsJ2_compress_39247 wsJ2_getChar_3b067 := goodIn_r _ [23, 24, 25, 26, 9, 10, 4, 11] (by decide +kernel) (by decide +kernel)
set_option maxRecDepth 20000 in
theorem gJ2_compress_39247_J2_getChar_3b067 : GoodIn wsJ2_compress_39247 (va_wsS RJ2 71 yJ2_getChar_3b067 wsJ2_getChar_3b067) := goodIn_app (goodIn_of _ (by decide +kernel)) ggJ2_compress_39247_J2_getChar_3b067
set_option maxRecDepth 20000 in
theorem ggJ2_compress_5af95_J2_checkBoundsOffCount_d044e : GoodIn wsJ2_compress_5af95 wsJ2_checkBoundsOffCount_d044e := goodIn_r _ [4, 5, 6, 3, 7, 8, 9, 10, 11, 12, 13, 14, 15, 16] (by decide +kernel) (by decide +kernel)
set_option maxRecDepth 20000 in
theorem gJ2_compress_5af95_J2_checkBoundsOffCount_d044e : GoodIn wsJ2_compress_5af95 (va_wsS RJ2 173 yJ2_checkBoundsOffCount_d044e wsJ2_checkBoundsOffCount_d044e) := goodIn_app (goodIn_of _ (by decide +kernel)) ggJ2_compress_5af95_J2_checkBoundsOffCount_d044e
set_option maxRecDepth 20000 in
theorem ggJ2_compress_5af95_J2_getChar_3b067 : GoodIn wsJ2_compress_5af95 wsJ2_getChar_3b067 := goodIn_r _ [19, 20, 21, 22, 5, 6, 3, 7] (by decide +kernel) (by decide +kernel)
set_option maxRecDepth 20000 in
theorem gJ2_compress_5af95_J2_getChar_3b067 : GoodIn wsJ2_compress_5af95 (va_wsS RJ2 71 yJ2_getChar_3b067 wsJ2_getChar_3b067) := goodIn_app (goodIn_of _ (by decide +kernel)) ggJ2_compress_5af95_J2_getChar_3b067
set_option maxRecDepth 20000 in
theorem ggJ2_getChars_46870_J2_checkBoundsBeginEnd_d044e : GoodIn wsJ2_getChars_46870 wsJ2_checkBoundsBeginEnd_d044e := goodIn_r _ [5, 6, 7, 4, 8, 9, 10, 11, 12, 13, 14, 15, 16, 17] (by decide +kernel) (by decide +kernel)
set_option maxRecDepth 20000 in
theorem gJ2_getChars_46870_J2_checkBoundsBeginEnd_d044e : GoodIn wsJ2_getChars_46870 (va_wsS RJ2 96 yJ2_checkBoundsBeginEnd_d044e wsJ2_checkBoundsBeginEnd_d044e) := goodIn_app (goodIn_of _ (by decide +kernel)) ggJ2_getChars_46870_J2_checkBoundsBeginEnd_d044e
set_option maxRecDepth 20000 in
theorem ggJ2_getChars_46870_J2_getChars_ba4f3 : GoodIn wsJ2_getChars_46870 wsJ2_getChars_ba4f3 := goodIn_r _ [20, 21, 22, 23, 24, 4, 25, 1, 26, 27, 6, 7, 8] (by decide +kernel) (by decide +kernel)
set_option maxRecDepth 20000 in
theorem gJ2_getChars_46870_J2_getChars_ba4f3 : GoodIn wsJ2_getChars_46870 (va_wsS RJ2 393 yJ2_getChars_ba4f3 wsJ2_getChars_ba4f3) := goodIn_app (goodIn_of _ (by decide +kernel)) ggJ2_getChars_46870_J2_getChars_ba4f3
set_option maxRecDepth 20000 in
theorem ggJ2_putCharsAt_cd4e5_J2_checkBoundsBeginEnd_d044e : GoodIn wsJ2_putCharsAt_cd4e5 wsJ2_checkBoundsBeginEnd_d044e := goodIn_r _ [5, 6, 7, 4, 8, 9, 10, 11, 12, 13, 14, 15, 16, 17] (by decide +kernel) (by decide +kernel)
set_option maxRecDepth 20000 in
theorem gJ2_putCharsAt_cd4e5_J2_checkBoundsBeginEnd_d044e : GoodIn wsJ2_putCharsAt_cd4e5 (va_wsS RJ2 96 yJ2_checkBoundsBeginEnd_d044e wsJ2_checkBoundsBeginEnd_d044e) := goodIn_app (goodIn_of _ (by decide +kernel)) ggJ2_putCharsAt_cd4e5_J2_checkBoundsBeginEnd_d044e
set_option maxRecDepth 20000 in
theorem ggJ2_putCharsAt_cd4e5_J2_putChar_b72d1 : GoodIn wsJ2_putCharsAt_cd4e5 wsJ2_putChar_b72d1 := goodIn_r _ [20, 1, 21, 22, 6, 7, 4, 8] (by decide +kernel) (by decide +kernel)
set_option maxRecDepth 20000 in
theorem gJ2_putCharsAt_cd4e5_J2_putChar_b72d1 : GoodIn wsJ2_putCharsAt_cd4e5 (va_wsS RJ2 111 yJ2_putChar_b72d1 wsJ2_putChar_b72d1) := goodIn_app (goodIn_of _ (by decide +kernel)) ggJ2_putCharsAt_cd4e5_J2_putChar_b72d1
set_option maxRecDepth 20000 in
theorem ggJ2_inflate_0e8fd_J2_checkBoundsOffCount_d044e : GoodIn wsJ2_inflate_0e8fd wsJ2_checkBoundsOffCount_d044e := goodIn_r _ [4, 5, 6, 3, 7, 8, 9, 10, 11, 12, 13, 14, 15, 16] (by decide +kernel) (by decide +kernel)
set_option maxRecDepth 20000 in
theorem gJ2_inflate_0e8fd_J2_checkBoundsOffCount_d044e : GoodIn wsJ2_inflate_0e8fd (va_wsS RJ2 173 yJ2_checkBoundsOffCount_d044e wsJ2_checkBoundsOffCount_d044e) := goodIn_app (goodIn_of _ (by decide +kernel)) ggJ2_inflate_0e8fd_J2_checkBoundsOffCount_d044e
set_option maxRecDepth 20000 in
theorem ggJ2_inflate_0e8fd_J2_putChar_b72d1 : GoodIn wsJ2_inflate_0e8fd wsJ2_putChar_b72d1 := goodIn_r _ [19, 20, 21, 22, 5, 6, 3, 7] (by decide +kernel) (by decide +kernel)
set_option maxRecDepth 20000 in
theorem gJ2_inflate_0e8fd_J2_putChar_b72d1 : GoodIn wsJ2_inflate_0e8fd (va_wsS RJ2 111 yJ2_putChar_b72d1 wsJ2_putChar_b72d1) := goodIn_app (goodIn_of _ (by decide +kernel)) ggJ2_inflate_0e8fd_J2_putChar_b72d1
set_option maxRecDepth 20000 in
theorem ggJ2_getChars_ba4f3_J2_putChar_b72d1 : GoodIn wsJ2_getChars_ba4f3 wsJ2_putChar_b72d1 := goodIn_r _ [6, 7, 8, 9, 10, 11, 5, 12] (by decide +kernel) (by decide +kernel)
set_option maxRecDepth 20000 in
theorem gJ2_getChars_ba4f3_J2_putChar_b72d1 : GoodIn wsJ2_getChars_ba4f3 (va_wsS RJ2 111 yJ2_putChar_b72d1 wsJ2_putChar_b72d1) := goodIn_app (goodIn_of _ (by decide +kernel)) ggJ2_getChars_ba4f3_J2_putChar_b72d1
set_option maxRecDepth 20000 in
theorem ggJ2_checkBoundsBeginEnd_d044e_J2_length_9d52b : GoodIn wsJ2_checkBoundsBeginEnd_d044e wsJ2_length_9d52b := goodIn_r _ [4] (by decide +kernel) (by decide +kernel)
set_option maxRecDepth 20000 in
theorem gJ2_checkBoundsBeginEnd_d044e_J2_length_9d52b : GoodIn wsJ2_checkBoundsBeginEnd_d044e (va_wsS RJ2 48 yJ2_length_9d52b wsJ2_length_9d52b) := goodIn_app (goodIn_of _ (by decide +kernel)) ggJ2_checkBoundsBeginEnd_d044e_J2_length_9d52b
set_option maxRecDepth 20000 in
theorem ggJ2_checkBoundsBeginEnd_d044e_J0_checkBoundsBeginEnd_23922 : GoodIn wsJ2_checkBoundsBeginEnd_d044e wsJ0_checkBoundsBeginEnd_23922 := goodIn_r _ [8, 9, 10, 11, 12, 13] (by decide +kernel) (by decide +kernel)
set_option maxRecDepth 20000 in
theorem gJ2_checkBoundsBeginEnd_d044e_J0_checkBoundsBeginEnd_23922 : GoodIn wsJ2_checkBoundsBeginEnd_d044e (va_wsS RJ2 241 yJ0_checkBoundsBeginEnd_23922 wsJ0_checkBoundsBeginEnd_23922) := goodIn_app (goodIn_of _ (by decide +kernel)) ggJ2_checkBoundsBeginEnd_d044e_J0_checkBoundsBeginEnd_23922
set_option maxRecDepth 20000 in
theorem ggJ2_checkBoundsOffCount_d044e_J2_length_9d52b : GoodIn wsJ2_checkBoundsOffCount_d044e wsJ2_length_9d52b := goodIn_r _ [4] (by decide +kernel) (by decide +kernel)
set_option maxRecDepth 20000 in
theorem gJ2_checkBoundsOffCount_d044e_J2_length_9d52b : GoodIn wsJ2_checkBoundsOffCount_d044e (va_wsS RJ2 48 yJ2_length_9d52b wsJ2_length_9d52b) := goodIn_app (goodIn_of _ (by decide +kernel)) ggJ2_checkBoundsOffCount_d044e_J2_length_9d52b
set_option maxRecDepth 20000 in
theorem ggJ2_checkBoundsOffCount_d044e_J0_checkBoundsOffCount_cabcc : GoodIn wsJ2_checkBoundsOffCount_d044e wsJ0_checkBoundsOffCount_cabcc := goodIn_r _ [8, 9, 10, 11, 12, 13] (by decide +kernel) (by decide +kernel)
set_option maxRecDepth 20000 in
theorem gJ2_checkBoundsOffCount_d044e_J0_checkBoundsOffCount_cabcc : GoodIn wsJ2_checkBoundsOffCount_d044e (va_wsS RJ2 419 yJ0_checkBoundsOffCount_cabcc wsJ0_checkBoundsOffCount_cabcc) := goodIn_app (goodIn_of _ (by decide +kernel)) ggJ2_checkBoundsOffCount_d044e_J0_checkBoundsOffCount_cabcc
theorem dJ7_rangeCheck_23922_0 : decode cJ7_rangeCheck_23922 0 = .ok (.iload_n 1, 1) := by decide +kernel
theorem dJ7_rangeCheck_23922_1 : decode cJ7_rangeCheck_23922 1 = .ok (.iload_n 2, 1) := by decide +kernel
theorem dJ7_rangeCheck_23922_2 : decode cJ7_rangeCheck_23922 2 = .ok (.if_icmp .le 44, 3) := by decide +kernel
theorem dJ7_rangeCheck_23922_5 : decode cJ7_rangeCheck_23922 5 = .ok (.new 43, 3) := by decide +kernel
theorem dJ7_rangeCheck_23922_8 : decode cJ7_rangeCheck_23922 8 = .ok (.dup, 1) := by decide +kernel
theorem dJ7_rangeCheck_23922_9 : decode cJ7_rangeCheck_23922 9 = .ok (.new 45, 3) := by decide +kernel
theorem dJ7_rangeCheck_23922_12 : decode cJ7_rangeCheck_23922 12 = .ok (.dup, 1) := by decide +kernel
theorem dJ7_rangeCheck_23922_13 : decode cJ7_rangeCheck_23922 13 = .ok (.invokespecial 47, 3) := by decide +kernel
theorem dJ7_rangeCheck_23922_16 : decode cJ7_rangeCheck_23922 16 = .ok (.ldc 48, 2) := by decide +kernel
theorem dJ7_rangeCheck_23922_18 : decode cJ7_rangeCheck_23922 18 = .ok (.invokevirtual 50, 3) := by decide +kernel
theorem dJ7_rangeCheck_23922_21 : decode cJ7_rangeCheck_23922 21 = .ok (.iload_n 1, 1) := by decide +kernel
theorem dJ7_rangeCheck_23922_22 : decode cJ7_rangeCheck_23922 22 = .ok (.invokevirtual 54, 3) := by decide +kernel
theorem dJ7_rangeCheck_23922_25 : decode cJ7_rangeCheck_23922 25 = .ok (.ldc 57, 2) := by decide +kernel
theorem dJ7_rangeCheck_23922_27 : decode cJ7_rangeCheck_23922 27 = .ok (.invokevirtual 50, 3) := by decide +kernel
theorem dJ7_rangeCheck_23922_30 : decode cJ7_rangeCheck_23922 30 = .ok (.iload_n 2, 1) := by decide +kernel
theorem dJ7_rangeCheck_23922_31 : decode cJ7_rangeCheck_23922 31 = .ok (.invokevirtual 54, 3) := by decide +kernel
theorem dJ7_rangeCheck_23922_34 : decode cJ7_rangeCheck_23922 34 = .ok (.ldc 59, 2) := by decide +kernel
theorem dJ7_rangeCheck_23922_36 : decode cJ7_rangeCheck_23922 36 = .ok (.invokevirtual 50, 3) := by decide +kernel
theorem dJ7_rangeCheck_23922_39 : decode cJ7_rangeCheck_23922 39 = .ok (.invokevirtual 61, 3) := by decide +kernel
theorem dJ7_rangeCheck_23922_42 : decode cJ7_rangeCheck_23922 42 = .ok (.invokespecial 65, 3) := by decide +kernel
theorem dJ7_rangeCheck_23922_45 : decode cJ7_rangeCheck_23922 45 = .ok (.athrow, 1) := by decide +kernel
theorem dJ7_rangeCheck_23922_46 : decode cJ7_rangeCheck_23922 46 = .ok (.iload_n 1, 1) := by decide +kernel
theorem dJ7_rangeCheck_23922_47 : decode cJ7_rangeCheck_23922 47 = .ok (.ifCond .ge 12, 3) := by decide +kernel
theorem dJ7_rangeCheck_23922_50 : decode cJ7_rangeCheck_23922 50 = .ok (.new 68, 3) := by decide +kernel
theorem dJ7_rangeCheck_23922_53 : decode cJ7_rangeCheck_23922 53 = .ok (.dup, 1) := by decide +kernel
theorem dJ7_rangeCheck_23922_54 : decode cJ7_rangeCheck_23922 54 = .ok (.iload_n 1, 1) := by decide +kernel
theorem dJ7_rangeCheck_23922_55 : decode cJ7_rangeCheck_23922 55 = .ok (.invokespecial 70, 3) := by decide +kernel
theorem dJ7_rangeCheck_23922_58 : decode cJ7_rangeCheck_23922 58 = .ok (.athrow, 1) := by decide +kernel
theorem dJ7_rangeCheck_23922_59 : decode cJ7_rangeCheck_23922 59 = .ok (.iload_n 2, 1) := by decide +kernel
theorem dJ7_rangeCheck_23922_60 : decode cJ7_rangeCheck_23922 60 = .ok (.iload_n 0, 1) := by decide +kernel
theorem dJ7_rangeCheck_23922_61 : decode cJ7_rangeCheck_23922 61 = .ok (.if_icmp .le 12, 3) := by decide +kernel
theorem dJ7_rangeCheck_23922_64 : decode cJ7_rangeCheck_23922 64 = .ok (.new 68, 3) := by decide +kernel
theorem dJ7_rangeCheck_23922_67 : decode cJ7_rangeCheck_23922 67 = .ok (.dup, 1) := by decide +kernel
theorem dJ7_rangeCheck_23922_68 : decode cJ7_rangeCheck_23922 68 = .ok (.iload_n 2, 1) := by decide +kernel
theorem dJ7_rangeCheck_23922_69 : decode cJ7_rangeCheck_23922 69 = .ok (.invokespecial 70, 3) := by decide +kernel
theorem dJ7_rangeCheck_23922_72 : decode cJ7_rangeCheck_23922 72 = .ok (.athrow, 1) := by decide +kernel
theorem dJ7_rangeCheck_23922_73 : decode cJ7_rangeCheck_23922 73 = .ok (.return_, 1) := by decide +kernel
theorem dJ7_fill_53178_0 : decode cJ7_fill_53178 0 = .ok (.iconst 0, 1) := by decide +kernel
theorem dJ7_fill_53178_1 : decode cJ7_fill_53178 1 = .ok (.istore_n 2, 1) := by decide +kernel
theorem dJ7_fill_53178_2 : decode cJ7_fill_53178 2 = .ok (.aload_n 0, 1) := by decide +kernel
theorem dJ7_fill_53178_3 : decode cJ7_fill_53178 3 = .ok (.arraylength, 1) := by decide +kernel
theorem dJ7_fill_53178_4 : decode cJ7_fill_53178 4 = .ok (.istore_n 3, 1) := by decide +kernel
theorem dJ7_fill_53178_5 : decode cJ7_fill_53178 5 = .ok (.iload_n 2, 1) := by decide +kernel
theorem dJ7_fill_53178_6 : decode cJ7_fill_53178 6 = .ok (.iload_n 3, 1) := by decide +kernel
theorem dJ7_fill_53178_7 : decode cJ7_fill_53178 7 = .ok (.if_icmp .ge 13, 3) := by decide +kernel
theorem dJ7_fill_53178_10 : decode cJ7_fill_53178 10 = .ok (.aload_n 0, 1) := by decide +kernel
theorem dJ7_fill_53178_11 : decode cJ7_fill_53178 11 = .ok (.iload_n 2, 1) := by decide +kernel
theorem dJ7_fill_53178_12 : decode cJ7_fill_53178 12 = .ok (.iload_n 1, 1) := by decide +kernel
theorem dJ7_fill_53178_13 : decode cJ7_fill_53178 13 = .ok (.iastore, 1) := by decide +kernel
theorem dJ7_fill_53178_14 : decode cJ7_fill_53178 14 = .ok (.iinc 2 1, 3) := by decide +kernel
theorem dJ7_fill_53178_17 : decode cJ7_fill_53178 17 = .ok (.goto (-12), 3) := by decide +kernel
theorem dJ7_fill_53178_20 : decode cJ7_fill_53178 20 = .ok (.return_, 1) := by decide +kernel
set_option maxRecDepth 20000 in
theorem ggJ7_fill_fda19_J7_rangeCheck_23922 : GoodIn wsJ7_fill_fda19 wsJ7_rangeCheck_23922 := goodIn_r _ [4, 5, 6, 7, 8, 9, 10, 11, 12, 13, 14, 15, 16, 17, 18, 19, 20] (by decide +kernel) (by decide +kernel)
set_option maxRecDepth 20000 in
theorem gJ7_fill_fda19_J7_rangeCheck_23922 : GoodIn wsJ7_fill_fda19 (va_wsS RJ7 13 yJ7_rangeCheck_23922 wsJ7_rangeCheck_23922) := goodIn_app (goodIn_of _ (by decide +kernel)) ggJ7_fill_fda19_J7_rangeCheck_23922
theorem dJ7_fill_fda19_0 : decode cJ7_fill_fda19 0 = .ok (.aload_n 0, 1) := by decide +kernel
theorem dJ7_fill_fda19_1 : decode cJ7_fill_fda19 1 = .ok (.arraylength, 1) := by decide +kernel
theorem dJ7_fill_fda19_2 : decode cJ7_fill_fda19 2 = .ok (.iload_n 1, 1) := by decide +kernel
theorem dJ7_fill_fda19_3 : decode cJ7_fill_fda19 3 = .ok (.iload_n 2, 1) := by decide +kernel
theorem dJ7_fill_fda19_4 : decode cJ7_fill_fda19 4 = .ok (.invokestatic 13, 3) := by decide +kernel
theorem dJ7_fill_fda19_7 : decode cJ7_fill_fda19 7 = .ok (.iload_n 1, 1) := by decide +kernel
theorem dJ7_fill_fda19_8 : decode cJ7_fill_fda19 8 = .ok (.istore 4, 2) := by decide +kernel
theorem dJ7_fill_fda19_10 : decode cJ7_fill_fda19 10 = .ok (.iload 4, 2) := by decide +kernel
theorem dJ7_fill_fda19_12 : decode cJ7_fill_fda19 12 = .ok (.iload_n 2, 1) := by decide +kernel
theorem dJ7_fill_fda19_13 : decode cJ7_fill_fda19 13 = .ok (.if_icmp .ge 14, 3) := by decide +kernel
theorem dJ7_fill_fda19_16 : decode cJ7_fill_fda19 16 = .ok (.aload_n 0, 1) := by decide +kernel
theorem dJ7_fill_fda19_17 : decode cJ7_fill_fda19 17 = .ok (.iload 4, 2) := by decide +kernel
theorem dJ7_fill_fda19_19 : decode cJ7_fill_fda19 19 = .ok (.iload_n 3, 1) := by decide +kernel
theorem dJ7_fill_fda19_20 : decode cJ7_fill_fda19 20 = .ok (.iastore, 1) := by decide +kernel
theorem dJ7_fill_fda19_21 : decode cJ7_fill_fda19 21 = .ok (.iinc 4 1, 3) := by decide +kernel
theorem dJ7_fill_fda19_24 : decode cJ7_fill_fda19 24 = .ok (.goto (-14), 3) := by decide +kernel
theorem dJ7_fill_fda19_27 : decode cJ7_fill_fda19 27 = .ok (.return_, 1) := by decide +kernel
set_option maxRecDepth 20000 in
theorem ggJ7_copyOfRange_39247_J7_copyOfRangeByte_39247 : GoodIn wsJ7_copyOfRange_39247 wsJ7_copyOfRangeByte_39247 := goodIn_r _ [10, 11, 12, 13, 14, 15, 16, 17, 18, 19, 20, 21, 9, 22, 23, 24, 25, 26, 27, 28, 29] (by decide +kernel) (by decide +kernel)
set_option maxRecDepth 20000 in
theorem gJ7_copyOfRange_39247_J7_copyOfRangeByte_39247 : GoodIn wsJ7_copyOfRange_39247 (va_wsS RJ7 339 yJ7_copyOfRangeByte_39247 wsJ7_copyOfRangeByte_39247) := goodIn_app (goodIn_of _ (by decide +kernel)) ggJ7_copyOfRange_39247_J7_copyOfRangeByte_39247
set_option maxRecDepth 20000 in
theorem ggJ7_copyOfRangeByte_39247_J7_checkLength_df160 : GoodIn wsJ7_copyOfRangeByte_39247 wsJ7_checkLength_df160 := goodIn_r _ [13, 14, 15, 16, 17, 18, 19, 20] (by decide +kernel) (by decide +kernel)
set_option maxRecDepth 20000 in
theorem gJ7_copyOfRangeByte_39247_J7_checkLength_df160 : GoodIn wsJ7_copyOfRangeByte_39247 (va_wsS RJ7 343 yJ7_checkLength_df160 wsJ7_checkLength_df160) := goodIn_app (goodIn_of _ (by decide +kernel)) ggJ7_copyOfRangeByte_39247_J7_checkLength_df160
set_option maxRecDepth 20000 in
theorem ggJ8_newLength_cabcc_J8_hugeLength_7cf53 : GoodIn wsJ8_newLength_cabcc wsJ8_hugeLength_7cf53 := goodIn_r _ [9, 5] (by decide +kernel) (by decide +kernel)
set_option maxRecDepth 20000 in
theorem gJ8_newLength_cabcc_J8_hugeLength_7cf53 : GoodIn wsJ8_newLength_cabcc (va_wsS RJ8 201 yJ8_hugeLength_7cf53 wsJ8_hugeLength_7cf53) := goodIn_app (goodIn_of _ (by decide +kernel)) ggJ8_newLength_cabcc_J8_hugeLength_7cf53
abbrev vwCl : List vw_C := [(RJ0, TJ0, 4), (RJ4, TJ4, 4), (RJx00060, TJx00060, 6), (RX0, TX0, 3), (RX1, TX1, 8), (RX2, TX2, 8), (RX3, TX3, 2), (RX4, TX4, 6), (RX5, TX5, 6), (RX6, TX6, 15), (RX7, TX7, 23)]
