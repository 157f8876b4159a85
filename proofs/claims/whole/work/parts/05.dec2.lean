theorem dX6_symmetry_0 : decode cX6_symmetry 0 = .ok (.aload_n 0, 1) := by decide +kernel
theorem dX6_symmetry_1 : decode cX6_symmetry 1 = .ok (.getfield 200, 3) := by decide +kernel
theorem dX6_symmetry_4 : decode cX6_symmetry 4 = .ok (.iconst 4, 1) := by decide +kernel
theorem dX6_symmetry_5 : decode cX6_symmetry 5 = .ok (.if_icmp .lt 5, 3) := by decide +kernel
theorem dX6_symmetry_8 : decode cX6_symmetry 8 = .ok (.iconst (-1), 1) := by decide +kernel
theorem dX6_symmetry_9 : decode cX6_symmetry 9 = .ok (.ireturn, 1) := by decide +kernel
theorem dX6_symmetry_10 : decode cX6_symmetry 10 = .ok (.aload_n 0, 1) := by decide +kernel
theorem dX6_symmetry_11 : decode cX6_symmetry 11 = .ok (.getfield 36, 3) := by decide +kernel
theorem dX6_symmetry_14 : decode cX6_symmetry 14 = .ok (.aload_n 0, 1) := by decide +kernel
theorem dX6_symmetry_15 : decode cX6_symmetry 15 = .ok (.getfield 200, 3) := by decide +kernel
theorem dX6_symmetry_18 : decode cX6_symmetry 18 = .ok (.aaload, 1) := by decide +kernel
theorem dX6_symmetry_19 : decode cX6_symmetry 19 = .ok (.invokestatic 203, 3) := by decide +kernel
theorem dX6_symmetry_22 : decode cX6_symmetry 22 = .ok (.aload_n 0, 1) := by decide +kernel
theorem dX6_symmetry_23 : decode cX6_symmetry 23 = .ok (.getfield 86, 3) := by decide +kernel
theorem dX6_symmetry_26 : decode cX6_symmetry 26 = .ok (.invokevirtual 134, 3) := by decide +kernel
theorem dX6_symmetry_29 : decode cX6_symmetry 29 = .ok (.aload_n 0, 1) := by decide +kernel
theorem dX6_symmetry_30 : decode cX6_symmetry 30 = .ok (.dup, 1) := by decide +kernel
theorem dX6_symmetry_31 : decode cX6_symmetry 31 = .ok (.getfield 200, 3) := by decide +kernel
theorem dX6_symmetry_34 : decode cX6_symmetry 34 = .ok (.dup_x1, 1) := by decide +kernel
theorem dX6_symmetry_35 : decode cX6_symmetry 35 = .ok (.iconst 1, 1) := by decide +kernel
theorem dX6_symmetry_36 : decode cX6_symmetry 36 = .ok (.iadd, 1) := by decide +kernel
theorem dX6_symmetry_37 : decode cX6_symmetry 37 = .ok (.putfield 200, 3) := by decide +kernel
theorem dX6_symmetry_40 : decode cX6_symmetry 40 = .ok (.ireturn, 1) := by decide +kernel
set_option maxRecDepth 20000 in
theorem ggX6_turn_X6_requireIndex : GoodIn wsX6_turn wsX6_requireIndex := goodIn_r _ [8, 9, 10, 11, 36, 37, 38, 39, 40, 41] (by decide +kernel) (by decide +kernel)
set_option maxRecDepth 20000 in
theorem gX6_turn_X6_requireIndex : GoodIn wsX6_turn (va_wsS RX6 96 yX6_requireIndex wsX6_requireIndex) := goodIn_app (goodIn_of _ (by decide +kernel)) ggX6_turn_X6_requireIndex
set_option maxRecDepth 20000 in
theorem ggX6_turn_X6_swap : GoodIn wsX6_turn wsX6_swap := goodIn_ca (goodIn_r _ [14] (by decide +kernel) (by decide +kernel)) (goodIn_sub (fun _ h => List.mem_cons_of_mem _ (List.mem_append_right _ h)) (by decide +kernel))
set_option maxRecDepth 20000 in
theorem gX6_turn_X6_swap : GoodIn wsX6_turn (va_wsS RX6 102 yX6_swap wsX6_swap) := goodIn_app (goodIn_of _ (by decide +kernel)) ggX6_turn_X6_swap
set_option maxRecDepth 20000 in
theorem ggX6_turn_X2_forget : GoodIn wsX6_turn wsX2_forget := goodIn_r _ [19, 20, 42, 43, 44, 45, 46, 47, 48, 49] (by decide +kernel) (by decide +kernel)
set_option maxRecDepth 20000 in
theorem gX6_turn_X2_forget : GoodIn wsX6_turn (wsV RX6 134 RX2 yX2_forget wsX2_forget) := goodIn_app (goodIn_of _ (by decide +kernel)) ggX6_turn_X2_forget
theorem dX6_turn_0 : decode cX6_turn 0 = .ok (.iload_n 1, 1) := by decide +kernel
theorem dX6_turn_1 : decode cX6_turn 1 = .ok (.aload_n 0, 1) := by decide +kernel
theorem dX6_turn_2 : decode cX6_turn 2 = .ok (.getfield 200, 3) := by decide +kernel
theorem dX6_turn_5 : decode cX6_turn 5 = .ok (.invokestatic 96, 3) := by decide +kernel
theorem dX6_turn_8 : decode cX6_turn 8 = .ok (.iload_n 2, 1) := by decide +kernel
theorem dX6_turn_9 : decode cX6_turn 9 = .ok (.aload_n 0, 1) := by decide +kernel
theorem dX6_turn_10 : decode cX6_turn 10 = .ok (.getfield 16, 3) := by decide +kernel
theorem dX6_turn_13 : decode cX6_turn 13 = .ok (.invokestatic 96, 3) := by decide +kernel
theorem dX6_turn_16 : decode cX6_turn 16 = .ok (.iload_n 3, 1) := by decide +kernel
theorem dX6_turn_17 : decode cX6_turn 17 = .ok (.aload_n 0, 1) := by decide +kernel
theorem dX6_turn_18 : decode cX6_turn 18 = .ok (.getfield 16, 3) := by decide +kernel
theorem dX6_turn_21 : decode cX6_turn 21 = .ok (.invokestatic 96, 3) := by decide +kernel
theorem dX6_turn_24 : decode cX6_turn 24 = .ok (.iload_n 2, 1) := by decide +kernel
theorem dX6_turn_25 : decode cX6_turn 25 = .ok (.iload_n 3, 1) := by decide +kernel
theorem dX6_turn_26 : decode cX6_turn 26 = .ok (.if_icmp .ne 5, 3) := by decide +kernel
theorem dX6_turn_29 : decode cX6_turn 29 = .ok (.iconst 0, 1) := by decide +kernel
theorem dX6_turn_30 : decode cX6_turn 30 = .ok (.ireturn, 1) := by decide +kernel
theorem dX6_turn_31 : decode cX6_turn 31 = .ok (.aload_n 0, 1) := by decide +kernel
theorem dX6_turn_32 : decode cX6_turn 32 = .ok (.getfield 36, 3) := by decide +kernel
theorem dX6_turn_35 : decode cX6_turn 35 = .ok (.iload_n 1, 1) := by decide +kernel
theorem dX6_turn_36 : decode cX6_turn 36 = .ok (.aaload, 1) := by decide +kernel
theorem dX6_turn_37 : decode cX6_turn 37 = .ok (.iload_n 2, 1) := by decide +kernel
theorem dX6_turn_38 : decode cX6_turn 38 = .ok (.iload_n 3, 1) := by decide +kernel
theorem dX6_turn_39 : decode cX6_turn 39 = .ok (.invokestatic 102, 3) := by decide +kernel
theorem dX6_turn_42 : decode cX6_turn 42 = .ok (.aload_n 0, 1) := by decide +kernel
theorem dX6_turn_43 : decode cX6_turn 43 = .ok (.getfield 86, 3) := by decide +kernel
theorem dX6_turn_46 : decode cX6_turn 46 = .ok (.invokevirtual 134, 3) := by decide +kernel
theorem dX6_turn_49 : decode cX6_turn 49 = .ok (.iconst 1, 1) := by decide +kernel
theorem dX6_turn_50 : decode cX6_turn 50 = .ok (.ireturn, 1) := by decide +kernel
set_option maxRecDepth 20000 in
theorem ggX6_good_X6_requireIndex : GoodIn wsX6_good wsX6_requireIndex := goodIn_r _ [6, 7, 8, 9, 50, 51, 52, 53, 54, 55] (by decide +kernel) (by decide +kernel)
set_option maxRecDepth 20000 in
theorem gX6_good_X6_requireIndex : GoodIn wsX6_good (va_wsS RX6 96 yX6_requireIndex wsX6_requireIndex) := goodIn_app (goodIn_of _ (by decide +kernel)) ggX6_good_X6_requireIndex
set_option maxRecDepth 20000 in
theorem ggX6_good_X6_isGood : GoodIn wsX6_good wsX6_isGood := goodIn_ca (goodIn_r _ [13, 14, 15, 16, 17, 18, 19, 20, 21, 22, 23, 24, 25, 26, 5, 27, 28, 29, 30, 31, 32, 33, 34, 35, 36, 37, 38, 39, 40, 41, 42, 43, 44, 45, 46, 47, 48, 49, 56, 57, 58, 59, 60, 61, 62, 63, 64, 65, 66] (by decide +kernel) (by decide +kernel)) (goodIn_sub (fun _ h => List.mem_cons_of_mem _ (List.mem_append_right _ h)) (by decide +kernel))
set_option maxRecDepth 20000 in
theorem gX6_good_X6_isGood : GoodIn wsX6_good (wsV RX6 207 RX6 yX6_isGood wsX6_isGood) := goodIn_app (goodIn_of _ (by decide +kernel)) ggX6_good_X6_isGood
theorem dX6_good_0 : decode cX6_good 0 = .ok (.iload_n 1, 1) := by decide +kernel
theorem dX6_good_1 : decode cX6_good 1 = .ok (.aload_n 0, 1) := by decide +kernel
theorem dX6_good_2 : decode cX6_good 2 = .ok (.getfield 200, 3) := by decide +kernel
theorem dX6_good_5 : decode cX6_good 5 = .ok (.invokestatic 96, 3) := by decide +kernel
theorem dX6_good_8 : decode cX6_good 8 = .ok (.aload_n 0, 1) := by decide +kernel
theorem dX6_good_9 : decode cX6_good 9 = .ok (.aload_n 0, 1) := by decide +kernel
theorem dX6_good_10 : decode cX6_good 10 = .ok (.getfield 36, 3) := by decide +kernel
theorem dX6_good_13 : decode cX6_good 13 = .ok (.iload_n 1, 1) := by decide +kernel
theorem dX6_good_14 : decode cX6_good 14 = .ok (.aaload, 1) := by decide +kernel
theorem dX6_good_15 : decode cX6_good 15 = .ok (.invokevirtual 207, 3) := by decide +kernel
theorem dX6_good_18 : decode cX6_good 18 = .ok (.ireturn, 1) := by decide +kernel
set_option maxRecDepth 20000 in
theorem ggX6_least_X1_stateCount : GoodIn wsX6_least wsX1_stateCount := goodIn_r _ [7, 8, 9, 144, 145, 146, 147, 148, 149, 150, 151] (by decide +kernel) (by decide +kernel)
set_option maxRecDepth 20000 in
theorem gX6_least_X1_stateCount : GoodIn wsX6_least (wsV RX6 140 RX1 yX1_stateCount wsX1_stateCount) := goodIn_app (goodIn_of _ (by decide +kernel)) ggX6_least_X1_stateCount
set_option maxRecDepth 20000 in
theorem ggX6_least_X6_requireIndex : GoodIn wsX6_least wsX6_requireIndex := goodIn_r _ [13, 14, 15, 16, 152, 153, 154, 155, 156, 157] (by decide +kernel) (by decide +kernel)
set_option maxRecDepth 20000 in
theorem gX6_least_X6_requireIndex : GoodIn wsX6_least (va_wsS RX6 96 yX6_requireIndex wsX6_requireIndex) := goodIn_app (goodIn_of _ (by decide +kernel)) ggX6_least_X6_requireIndex
set_option maxRecDepth 20000 in
theorem ggX6_least_X6_workOutOrbits : GoodIn wsX6_least wsX6_workOutOrbits := goodIn_ca (goodIn_r _ [20, 2, 1, 21, 22, 23, 24, 25, 26, 27, 28, 29, 30, 31, 32, 33, 34, 35, 36, 37, 4, 5, 6, 7, 8, 9, 38, 12, 39, 40, 41, 42, 43, 44, 45, 46, 47, 48, 49, 50, 51, 52, 53, 54, 55, 56, 57, 58, 59, 60, 61, 62, 63, 64, 65, 66, 67, 68, 69, 70, 71, 72, 73, 74, 75, 76, 77, 78, 79, 80, 81, 82, 83, 84, 85, 86, 87, 88, 89, 90, 91, 92, 93, 94, 95, 96, 97, 98, 99, 100, 101, 102, 103, 104, 105, 106, 107, 108, 109, 110, 111, 112, 113, 114, 115, 116, 117, 118, 119, 120, 121, 122, 123, 124, 125, 126, 127, 129, 130, 131, 132, 133, 134, 135, 136, 137, 138, 139, 140, 141, 142, 143, 158, 159, 160, 161, 162, 163, 164, 165, 144, 145, 146, 147, 148, 149, 150, 151, 166, 167, 168, 169, 170] (by decide +kernel) (by decide +kernel)) (goodIn_sub (fun _ h => List.mem_cons_of_mem _ (List.mem_append_right _ h)) (by decide +kernel))
set_option maxRecDepth 20000 in
theorem gX6_least_X6_workOutOrbits : GoodIn wsX6_least (wsV RX6 211 RX6 yX6_workOutOrbits wsX6_workOutOrbits) := goodIn_app (goodIn_of _ (by decide +kernel)) ggX6_least_X6_workOutOrbits
set_option maxRecDepth 20000 in
theorem ggX6_least_X2_root : GoodIn wsX6_least wsX2_root := goodIn_ca (goodIn_r _ [127, 30, 33, 158, 159, 160, 161, 162, 163, 164, 165] (by decide +kernel) (by decide +kernel)) (goodIn_sub (fun _ h => List.mem_cons_of_mem _ (List.mem_append_right _ h)) (by decide +kernel))
set_option maxRecDepth 20000 in
theorem gX6_least_X2_root : GoodIn wsX6_least (wsV RX6 214 RX2 yX2_root wsX2_root) := goodIn_app (goodIn_of _ (by decide +kernel)) ggX6_least_X2_root
theorem dX6_least_0 : decode cX6_least 0 = .ok (.iload_n 1, 1) := by decide +kernel
theorem dX6_least_1 : decode cX6_least 1 = .ok (.aload_n 0, 1) := by decide +kernel
theorem dX6_least_2 : decode cX6_least 2 = .ok (.getfield 42, 3) := by decide +kernel
theorem dX6_least_5 : decode cX6_least 5 = .ok (.invokevirtual 140, 3) := by decide +kernel
theorem dX6_least_8 : decode cX6_least 8 = .ok (.invokestatic 96, 3) := by decide +kernel
theorem dX6_least_11 : decode cX6_least 11 = .ok (.aload_n 0, 1) := by decide +kernel
theorem dX6_least_12 : decode cX6_least 12 = .ok (.invokevirtual 211, 3) := by decide +kernel
theorem dX6_least_15 : decode cX6_least 15 = .ok (.aload_n 0, 1) := by decide +kernel
theorem dX6_least_16 : decode cX6_least 16 = .ok (.getfield 86, 3) := by decide +kernel
theorem dX6_least_19 : decode cX6_least 19 = .ok (.iload_n 1, 1) := by decide +kernel
theorem dX6_least_20 : decode cX6_least 20 = .ok (.invokevirtual 214, 3) := by decide +kernel
theorem dX6_least_23 : decode cX6_least 23 = .ok (.ireturn, 1) := by decide +kernel
set_option maxRecDepth 20000 in
theorem ggX6_classes_X6_workOutOrbits : GoodIn wsX6_classes wsX6_workOutOrbits := goodIn_ca (goodIn_r _ [6, 1, 7, 8, 9, 10, 11, 12, 13, 14, 15, 16, 17, 18, 19, 20, 21, 22, 23, 24, 25, 26, 27, 28, 29, 30, 31, 5, 32, 33, 34, 35, 36, 37, 38, 39, 40, 41, 42, 43, 44, 45, 46, 47, 48, 49, 50, 51, 52, 53, 54, 55, 56, 57, 58, 59, 60, 61, 62, 63, 64, 65, 66, 67, 68, 69, 70, 71, 72, 73, 74, 75, 76, 77, 78, 79, 80, 81, 82, 83, 84, 85, 86, 87, 88, 89, 90, 91, 92, 93, 94, 95, 96, 97, 98, 99, 100, 101, 102, 103, 104, 105, 106, 107, 108, 109, 110, 111, 112, 113, 114, 115, 116, 117, 118, 119, 120, 121, 122, 123, 124, 125, 126, 127, 128, 129, 130, 131, 132, 133, 134, 135, 136, 137, 138, 139, 140, 141, 142, 143, 144, 145, 146, 147, 148, 149, 150, 151, 152, 153, 154, 155, 156] (by decide +kernel) (by decide +kernel)) (goodIn_sub (fun _ h => List.mem_cons_of_mem _ (List.mem_append_right _ h)) (by decide +kernel))
set_option maxRecDepth 20000 in
theorem gX6_classes_X6_workOutOrbits : GoodIn wsX6_classes (wsV RX6 211 RX6 yX6_workOutOrbits wsX6_workOutOrbits) := goodIn_app (goodIn_of _ (by decide +kernel)) ggX6_classes_X6_workOutOrbits
theorem dX6_classes_0 : decode cX6_classes 0 = .ok (.aload_n 0, 1) := by decide +kernel
theorem dX6_classes_1 : decode cX6_classes 1 = .ok (.invokevirtual 211, 3) := by decide +kernel
theorem dX6_classes_4 : decode cX6_classes 4 = .ok (.aload_n 0, 1) := by decide +kernel
theorem dX6_classes_5 : decode cX6_classes 5 = .ok (.getfield 86, 3) := by decide +kernel
theorem dX6_classes_8 : decode cX6_classes 8 = .ok (.getfield 217, 3) := by decide +kernel
theorem dX6_classes_11 : decode cX6_classes 11 = .ok (.ireturn, 1) := by decide +kernel
set_option maxRecDepth 20000 in
theorem ggX6_file_X5_bodyBytes : GoodIn wsX6_file wsX5_bodyBytes := goodIn_r _ [6, 7, 48, 49, 50, 51, 52, 53] (by decide +kernel) (by decide +kernel)
set_option maxRecDepth 20000 in
theorem gX6_file_X5_bodyBytes : GoodIn wsX6_file (wsV RX6 220 RX5 yX5_bodyBytes wsX5_bodyBytes) := goodIn_app (goodIn_of _ (by decide +kernel)) ggX6_file_X5_bodyBytes
set_option maxRecDepth 20000 in
theorem ggX6_file_X6_headerByte : GoodIn wsX6_file wsX6_headerByte := goodIn_r _ [12, 13, 14, 15, 1, 33, 34, 35, 36, 37, 38, 39, 40, 41, 42, 43, 44, 45, 46, 47, 54, 55, 56, 57, 58, 59, 60, 61, 48, 49, 50, 51, 52, 53] (by decide +kernel) (by decide +kernel)
set_option maxRecDepth 20000 in
theorem gX6_file_X6_headerByte : GoodIn wsX6_file (wsV RX6 223 RX6 yX6_headerByte wsX6_headerByte) := goodIn_app (goodIn_of _ (by decide +kernel)) ggX6_file_X6_headerByte
set_option maxRecDepth 20000 in
theorem ggX6_file_X5_bodyByte : GoodIn wsX6_file wsX5_bodyByte := goodIn_ca (goodIn_r _ [19, 7, 20, 21, 22, 5, 23, 24, 25, 26, 27, 28, 48, 49, 50, 51, 52, 53] (by decide +kernel) (by decide +kernel)) (goodIn_sub (fun _ h => List.mem_cons_of_mem _ (List.mem_append_right _ h)) (by decide +kernel))
set_option maxRecDepth 20000 in
theorem gX6_file_X5_bodyByte : GoodIn wsX6_file (wsV RX6 226 RX5 yX5_bodyByte wsX5_bodyByte) := goodIn_app (goodIn_of _ (by decide +kernel)) ggX6_file_X5_bodyByte
set_option maxRecDepth 20000 in
theorem ggX6_file_X6_checkByte : GoodIn wsX6_file wsX6_checkByte := goodIn_ca (goodIn_r _ [32, 1, 8, 9, 10, 11, 12, 13, 14, 15, 2, 3, 4, 5, 6, 7, 16, 17, 18, 19, 20, 21, 22, 23, 24, 25, 26, 27, 28, 33, 34, 35, 36, 37, 38, 39, 40, 41, 42, 43, 44, 45, 46, 47, 54, 55, 56, 57, 58, 59, 60, 61, 48, 49, 50, 51, 52, 53] (by decide +kernel) (by decide +kernel)) (goodIn_sub (fun _ h => List.mem_cons_of_mem _ (List.mem_append_right _ h)) (by decide +kernel))
set_option maxRecDepth 20000 in
theorem gX6_file_X6_checkByte : GoodIn wsX6_file (wsV RX6 229 RX6 yX6_checkByte wsX6_checkByte) := goodIn_app (goodIn_of _ (by decide +kernel)) ggX6_file_X6_checkByte
theorem dX6_file_0 : decode cX6_file 0 = .ok (.aload_n 0, 1) := by decide +kernel
theorem dX6_file_1 : decode cX6_file 1 = .ok (.getfield 79, 3) := by decide +kernel
theorem dX6_file_4 : decode cX6_file 4 = .ok (.getfield 184, 3) := by decide +kernel
theorem dX6_file_7 : decode cX6_file 7 = .ok (.ifCond .eq 7, 3) := by decide +kernel
theorem dX6_file_10 : decode cX6_file 10 = .ok (.iload_n 1, 1) := by decide +kernel
theorem dX6_file_11 : decode cX6_file 11 = .ok (.ifCond .ge 5, 3) := by decide +kernel
theorem dX6_file_14 : decode cX6_file 14 = .ok (.iconst (-1), 1) := by decide +kernel
theorem dX6_file_15 : decode cX6_file 15 = .ok (.ireturn, 1) := by decide +kernel
theorem dX6_file_16 : decode cX6_file 16 = .ok (.bipush 6, 2) := by decide +kernel
theorem dX6_file_18 : decode cX6_file 18 = .ok (.aload_n 0, 1) := by decide +kernel
theorem dX6_file_19 : decode cX6_file 19 = .ok (.getfield 79, 3) := by decide +kernel
theorem dX6_file_22 : decode cX6_file 22 = .ok (.invokevirtual 220, 3) := by decide +kernel
theorem dX6_file_25 : decode cX6_file 25 = .ok (.iadd, 1) := by decide +kernel
theorem dX6_file_26 : decode cX6_file 26 = .ok (.istore_n 2, 1) := by decide +kernel
theorem dX6_file_27 : decode cX6_file 27 = .ok (.iload_n 1, 1) := by decide +kernel
theorem dX6_file_28 : decode cX6_file 28 = .ok (.bipush 6, 2) := by decide +kernel
theorem dX6_file_30 : decode cX6_file 30 = .ok (.if_icmp .ge 9, 3) := by decide +kernel
theorem dX6_file_33 : decode cX6_file 33 = .ok (.aload_n 0, 1) := by decide +kernel
theorem dX6_file_34 : decode cX6_file 34 = .ok (.iload_n 1, 1) := by decide +kernel
theorem dX6_file_35 : decode cX6_file 35 = .ok (.invokevirtual 223, 3) := by decide +kernel
theorem dX6_file_38 : decode cX6_file 38 = .ok (.ireturn, 1) := by decide +kernel
theorem dX6_file_39 : decode cX6_file 39 = .ok (.iload_n 1, 1) := by decide +kernel
theorem dX6_file_40 : decode cX6_file 40 = .ok (.iload_n 2, 1) := by decide +kernel
theorem dX6_file_41 : decode cX6_file 41 = .ok (.if_icmp .ge 15, 3) := by decide +kernel
theorem dX6_file_44 : decode cX6_file 44 = .ok (.aload_n 0, 1) := by decide +kernel
theorem dX6_file_45 : decode cX6_file 45 = .ok (.getfield 79, 3) := by decide +kernel
theorem dX6_file_48 : decode cX6_file 48 = .ok (.iload_n 1, 1) := by decide +kernel
theorem dX6_file_49 : decode cX6_file 49 = .ok (.bipush 6, 2) := by decide +kernel
theorem dX6_file_51 : decode cX6_file 51 = .ok (.isub, 1) := by decide +kernel
theorem dX6_file_52 : decode cX6_file 52 = .ok (.invokevirtual 226, 3) := by decide +kernel
theorem dX6_file_55 : decode cX6_file 55 = .ok (.ireturn, 1) := by decide +kernel
theorem dX6_file_56 : decode cX6_file 56 = .ok (.iload_n 1, 1) := by decide +kernel
theorem dX6_file_57 : decode cX6_file 57 = .ok (.iload_n 2, 1) := by decide +kernel
theorem dX6_file_58 : decode cX6_file 58 = .ok (.if_icmp .ne 10, 3) := by decide +kernel
theorem dX6_file_61 : decode cX6_file 61 = .ok (.aload_n 0, 1) := by decide +kernel
theorem dX6_file_62 : decode cX6_file 62 = .ok (.invokevirtual 229, 3) := by decide +kernel
theorem dX6_file_65 : decode cX6_file 65 = .ok (.goto 4, 3) := by decide +kernel
theorem dX6_file_68 : decode cX6_file 68 = .ok (.iconst (-1), 1) := by decide +kernel
theorem dX6_file_69 : decode cX6_file 69 = .ok (.ireturn, 1) := by decide +kernel
theorem dX6_requireIndex_0 : decode cX6_requireIndex 0 = .ok (.iload_n 0, 1) := by decide +kernel
theorem dX6_requireIndex_1 : decode cX6_requireIndex 1 = .ok (.ifCond .lt 8, 3) := by decide +kernel
theorem dX6_requireIndex_4 : decode cX6_requireIndex 4 = .ok (.iload_n 0, 1) := by decide +kernel
theorem dX6_requireIndex_5 : decode cX6_requireIndex 5 = .ok (.iload_n 1, 1) := by decide +kernel
theorem dX6_requireIndex_6 : decode cX6_requireIndex 6 = .ok (.if_icmp .lt 13, 3) := by decide +kernel
theorem dX6_requireIndex_9 : decode cX6_requireIndex 9 = .ok (.new 232, 3) := by decide +kernel
theorem dX6_requireIndex_12 : decode cX6_requireIndex 12 = .ok (.dup, 1) := by decide +kernel
theorem dX6_requireIndex_13 : decode cX6_requireIndex 13 = .ok (.ldc 234, 2) := by decide +kernel
theorem dX6_requireIndex_15 : decode cX6_requireIndex 15 = .ok (.invokespecial 236, 3) := by decide +kernel
theorem dX6_requireIndex_18 : decode cX6_requireIndex 18 = .ok (.athrow, 1) := by decide +kernel
theorem dX6_requireIndex_19 : decode cX6_requireIndex 19 = .ok (.return_, 1) := by decide +kernel
theorem dX6_leaveAll_0 : decode cX6_leaveAll 0 = .ok (.iconst 0, 1) := by decide +kernel
theorem dX6_leaveAll_1 : decode cX6_leaveAll 1 = .ok (.istore_n 1, 1) := by decide +kernel
theorem dX6_leaveAll_2 : decode cX6_leaveAll 2 = .ok (.iload_n 1, 1) := by decide +kernel
theorem dX6_leaveAll_3 : decode cX6_leaveAll 3 = .ok (.aload_n 0, 1) := by decide +kernel
theorem dX6_leaveAll_4 : decode cX6_leaveAll 4 = .ok (.arraylength, 1) := by decide +kernel
theorem dX6_leaveAll_5 : decode cX6_leaveAll 5 = .ok (.if_icmp .ge 13, 3) := by decide +kernel
theorem dX6_leaveAll_8 : decode cX6_leaveAll 8 = .ok (.aload_n 0, 1) := by decide +kernel
theorem dX6_leaveAll_9 : decode cX6_leaveAll 9 = .ok (.iload_n 1, 1) := by decide +kernel
theorem dX6_leaveAll_10 : decode cX6_leaveAll 10 = .ok (.iload_n 1, 1) := by decide +kernel
theorem dX6_leaveAll_11 : decode cX6_leaveAll 11 = .ok (.iastore, 1) := by decide +kernel
theorem dX6_leaveAll_12 : decode cX6_leaveAll 12 = .ok (.iinc 1 1, 3) := by decide +kernel
theorem dX6_leaveAll_15 : decode cX6_leaveAll 15 = .ok (.goto (-13), 3) := by decide +kernel
theorem dX6_leaveAll_18 : decode cX6_leaveAll 18 = .ok (.return_, 1) := by decide +kernel
set_option maxRecDepth 20000 in
theorem ggX6_rowThatLeavesAll_X6_leaveAll : GoodIn wsX6_rowThatLeavesAll wsX6_leaveAll := goodIn_ca (goodIn_r _ [5] (by decide +kernel) (by decide +kernel)) (goodIn_sub (fun _ h => List.mem_cons_of_mem _ (List.mem_append_right _ h)) (by decide +kernel))
set_option maxRecDepth 20000 in
theorem gX6_rowThatLeavesAll_X6_leaveAll : GoodIn wsX6_rowThatLeavesAll (va_wsS RX6 203 yX6_leaveAll wsX6_leaveAll) := goodIn_app (goodIn_of _ (by decide +kernel)) ggX6_rowThatLeavesAll_X6_leaveAll
theorem dX6_rowThatLeavesAll_0 : decode cX6_rowThatLeavesAll 0 = .ok (.iload_n 0, 1) := by decide +kernel
theorem dX6_rowThatLeavesAll_1 : decode cX6_rowThatLeavesAll 1 = .ok (.newarray .int, 2) := by decide +kernel
theorem dX6_rowThatLeavesAll_3 : decode cX6_rowThatLeavesAll 3 = .ok (.astore_n 1, 1) := by decide +kernel
theorem dX6_rowThatLeavesAll_4 : decode cX6_rowThatLeavesAll 4 = .ok (.aload_n 1, 1) := by decide +kernel
theorem dX6_rowThatLeavesAll_5 : decode cX6_rowThatLeavesAll 5 = .ok (.invokestatic 203, 3) := by decide +kernel
theorem dX6_rowThatLeavesAll_8 : decode cX6_rowThatLeavesAll 8 = .ok (.aload_n 1, 1) := by decide +kernel
theorem dX6_rowThatLeavesAll_9 : decode cX6_rowThatLeavesAll 9 = .ok (.areturn, 1) := by decide +kernel
theorem dX6_swap_0 : decode cX6_swap 0 = .ok (.aload_n 0, 1) := by decide +kernel
theorem dX6_swap_1 : decode cX6_swap 1 = .ok (.iload_n 1, 1) := by decide +kernel
theorem dX6_swap_2 : decode cX6_swap 2 = .ok (.iaload, 1) := by decide +kernel
theorem dX6_swap_3 : decode cX6_swap 3 = .ok (.istore_n 3, 1) := by decide +kernel
theorem dX6_swap_4 : decode cX6_swap 4 = .ok (.aload_n 0, 1) := by decide +kernel
theorem dX6_swap_5 : decode cX6_swap 5 = .ok (.iload_n 1, 1) := by decide +kernel
theorem dX6_swap_6 : decode cX6_swap 6 = .ok (.aload_n 0, 1) := by decide +kernel
theorem dX6_swap_7 : decode cX6_swap 7 = .ok (.iload_n 2, 1) := by decide +kernel
theorem dX6_swap_8 : decode cX6_swap 8 = .ok (.iaload, 1) := by decide +kernel
theorem dX6_swap_9 : decode cX6_swap 9 = .ok (.iastore, 1) := by decide +kernel
theorem dX6_swap_10 : decode cX6_swap 10 = .ok (.aload_n 0, 1) := by decide +kernel
theorem dX6_swap_11 : decode cX6_swap 11 = .ok (.iload_n 2, 1) := by decide +kernel
theorem dX6_swap_12 : decode cX6_swap 12 = .ok (.iload_n 3, 1) := by decide +kernel
theorem dX6_swap_13 : decode cX6_swap 13 = .ok (.iastore, 1) := by decide +kernel
theorem dX6_swap_14 : decode cX6_swap 14 = .ok (.return_, 1) := by decide +kernel
theorem dX6_roomFor_0 : decode cX6_roomFor 0 = .ok (.aload_n 0, 1) := by decide +kernel
theorem dX6_roomFor_1 : decode cX6_roomFor 1 = .ok (.arraylength, 1) := by decide +kernel
theorem dX6_roomFor_2 : decode cX6_roomFor 2 = .ok (.iload_n 1, 1) := by decide +kernel
theorem dX6_roomFor_3 : decode cX6_roomFor 3 = .ok (.if_icmp .lt 7, 3) := by decide +kernel
theorem dX6_roomFor_6 : decode cX6_roomFor 6 = .ok (.aload_n 0, 1) := by decide +kernel
theorem dX6_roomFor_7 : decode cX6_roomFor 7 = .ok (.goto 6, 3) := by decide +kernel
theorem dX6_roomFor_10 : decode cX6_roomFor 10 = .ok (.iload_n 1, 1) := by decide +kernel
theorem dX6_roomFor_11 : decode cX6_roomFor 11 = .ok (.newarray .int, 2) := by decide +kernel
theorem dX6_roomFor_13 : decode cX6_roomFor 13 = .ok (.areturn, 1) := by decide +kernel
set_option maxRecDepth 20000 in
theorem ggX6_movesChanged_X5_drop : GoodIn wsX6_movesChanged wsX5_drop := goodIn_r _ [7, 8, 30, 31, 32, 33, 34, 35] (by decide +kernel) (by decide +kernel)
set_option maxRecDepth 20000 in
theorem gX6_movesChanged_X5_drop : GoodIn wsX6_movesChanged (wsV RX6 131 RX5 yX5_drop wsX5_drop) := goodIn_app (goodIn_of _ (by decide +kernel)) ggX6_movesChanged_X5_drop
set_option maxRecDepth 20000 in
theorem ggX6_movesChanged_X2_forget : GoodIn wsX6_movesChanged wsX2_forget := goodIn_r _ [13, 14, 36, 37, 38, 39, 40, 41, 42, 43] (by decide +kernel) (by decide +kernel)
set_option maxRecDepth 20000 in
theorem gX6_movesChanged_X2_forget : GoodIn wsX6_movesChanged (wsV RX6 134 RX2 yX2_forget wsX2_forget) := goodIn_app (goodIn_of _ (by decide +kernel)) ggX6_movesChanged_X2_forget
theorem dX6_movesChanged_0 : decode cX6_movesChanged 0 = .ok (.aload_n 0, 1) := by decide +kernel
theorem dX6_movesChanged_1 : decode cX6_movesChanged 1 = .ok (.getfield 79, 3) := by decide +kernel
theorem dX6_movesChanged_4 : decode cX6_movesChanged 4 = .ok (.invokevirtual 131, 3) := by decide +kernel
theorem dX6_movesChanged_7 : decode cX6_movesChanged 7 = .ok (.aload_n 0, 1) := by decide +kernel
theorem dX6_movesChanged_8 : decode cX6_movesChanged 8 = .ok (.getfield 86, 3) := by decide +kernel
theorem dX6_movesChanged_11 : decode cX6_movesChanged 11 = .ok (.invokevirtual 134, 3) := by decide +kernel
theorem dX6_movesChanged_14 : decode cX6_movesChanged 14 = .ok (.return_, 1) := by decide +kernel
set_option maxRecDepth 20000 in
theorem ggX6_orderOf_X3_goHome : GoodIn wsX6_orderOf wsX3_goHome := goodIn_ca (goodIn_r _ [6, 7, 8, 9, 10, 11, 12, 13, 14, 15, 39, 40] (by decide +kernel) (by decide +kernel)) (goodIn_sub (fun _ h => List.mem_cons_of_mem _ (List.mem_append_right _ h)) (by decide +kernel))
set_option maxRecDepth 20000 in
theorem gX6_orderOf_X3_goHome : GoodIn wsX6_orderOf (wsV RX6 137 RX3 yX3_goHome wsX3_goHome) := goodIn_app (goodIn_of _ (by decide +kernel)) ggX6_orderOf_X3_goHome
set_option maxRecDepth 20000 in
theorem ggX6_orderOf_X3_follow : GoodIn wsX6_orderOf wsX3_follow := goodIn_ca (goodIn_r _ [19, 7, 8, 39, 40, 41, 42, 43] (by decide +kernel) (by decide +kernel)) (goodIn_sub (fun _ h => List.mem_cons_of_mem _ (List.mem_append_right _ h)) (by decide +kernel))
set_option maxRecDepth 20000 in
theorem gX6_orderOf_X3_follow : GoodIn wsX6_orderOf (wsV RX6 158 RX3 yX3_follow wsX3_follow) := goodIn_app (goodIn_of _ (by decide +kernel)) ggX6_orderOf_X3_follow
set_option maxRecDepth 20000 in
theorem ggX6_orderOf_X3_isHome : GoodIn wsX6_orderOf wsX3_isHome := goodIn_ca (goodIn_r _ [23, 7, 8, 39, 40] (by decide +kernel) (by decide +kernel)) (goodIn_sub (fun _ h => List.mem_cons_of_mem _ (List.mem_append_right _ h)) (by decide +kernel))
set_option maxRecDepth 20000 in
theorem gX6_orderOf_X3_isHome : GoodIn wsX6_orderOf (wsV RX6 237 RX3 yX3_isHome wsX3_isHome) := goodIn_app (goodIn_of _ (by decide +kernel)) ggX6_orderOf_X3_isHome
theorem dX6_orderOf_0 : decode cX6_orderOf 0 = .ok (.aload_n 0, 1) := by decide +kernel
theorem dX6_orderOf_1 : decode cX6_orderOf 1 = .ok (.getfield 55, 3) := by decide +kernel
theorem dX6_orderOf_4 : decode cX6_orderOf 4 = .ok (.invokevirtual 137, 3) := by decide +kernel
theorem dX6_orderOf_7 : decode cX6_orderOf 7 = .ok (.iconst 1, 1) := by decide +kernel
theorem dX6_orderOf_8 : decode cX6_orderOf 8 = .ok (.istore_n 2, 1) := by decide +kernel
theorem dX6_orderOf_9 : decode cX6_orderOf 9 = .ok (.iload_n 2, 1) := by decide +kernel
theorem dX6_orderOf_10 : decode cX6_orderOf 10 = .ok (.bipush 64, 2) := by decide +kernel
theorem dX6_orderOf_12 : decode cX6_orderOf 12 = .ok (.if_icmp .ge 29, 3) := by decide +kernel
theorem dX6_orderOf_15 : decode cX6_orderOf 15 = .ok (.aload_n 0, 1) := by decide +kernel
theorem dX6_orderOf_16 : decode cX6_orderOf 16 = .ok (.getfield 55, 3) := by decide +kernel
theorem dX6_orderOf_19 : decode cX6_orderOf 19 = .ok (.aload_n 1, 1) := by decide +kernel
theorem dX6_orderOf_20 : decode cX6_orderOf 20 = .ok (.invokevirtual 158, 3) := by decide +kernel
theorem dX6_orderOf_23 : decode cX6_orderOf 23 = .ok (.aload_n 0, 1) := by decide +kernel
theorem dX6_orderOf_24 : decode cX6_orderOf 24 = .ok (.getfield 55, 3) := by decide +kernel
theorem dX6_orderOf_27 : decode cX6_orderOf 27 = .ok (.invokevirtual 237, 3) := by decide +kernel
theorem dX6_orderOf_30 : decode cX6_orderOf 30 = .ok (.ifCond .eq 5, 3) := by decide +kernel
theorem dX6_orderOf_33 : decode cX6_orderOf 33 = .ok (.iload_n 2, 1) := by decide +kernel
theorem dX6_orderOf_34 : decode cX6_orderOf 34 = .ok (.ireturn, 1) := by decide +kernel
theorem dX6_orderOf_35 : decode cX6_orderOf 35 = .ok (.iinc 2 1, 3) := by decide +kernel
theorem dX6_orderOf_38 : decode cX6_orderOf 38 = .ok (.goto (-29), 3) := by decide +kernel
theorem dX6_orderOf_41 : decode cX6_orderOf 41 = .ok (.bipush 64, 2) := by decide +kernel
theorem dX6_orderOf_43 : decode cX6_orderOf 43 = .ok (.ireturn, 1) := by decide +kernel
set_option maxRecDepth 20000 in
theorem ggX6_mostRepeats_X6_orderOf : GoodIn wsX6_mostRepeats wsX6_orderOf := goodIn_ca (goodIn_r _ [6, 7, 8, 9, 10, 11, 12, 13, 14, 15, 5, 16, 17, 18, 19, 20, 21, 22, 23, 24, 25, 26, 27, 28, 29, 30, 31, 32, 33, 34, 35, 36, 37, 38, 39, 40, 41, 42, 43, 44, 45, 46, 47, 48] (by decide +kernel) (by decide +kernel)) (goodIn_sub (fun _ h => List.mem_cons_of_mem _ (List.mem_append_right _ h)) (by decide +kernel))
set_option maxRecDepth 20000 in
theorem gX6_mostRepeats_X6_orderOf : GoodIn wsX6_mostRepeats (wsV RX6 116 RX6 yX6_orderOf wsX6_orderOf) := goodIn_app (goodIn_of _ (by decide +kernel)) ggX6_mostRepeats_X6_orderOf
theorem dX6_mostRepeats_0 : decode cX6_mostRepeats 0 = .ok (.iload_n 2, 1) := by decide +kernel
theorem dX6_mostRepeats_1 : decode cX6_mostRepeats 1 = .ok (.ifCond .ne 7, 3) := by decide +kernel
theorem dX6_mostRepeats_4 : decode cX6_mostRepeats 4 = .ok (.iconst 1, 1) := by decide +kernel
theorem dX6_mostRepeats_5 : decode cX6_mostRepeats 5 = .ok (.goto 15, 3) := by decide +kernel
theorem dX6_mostRepeats_8 : decode cX6_mostRepeats 8 = .ok (.aload_n 0, 1) := by decide +kernel
theorem dX6_mostRepeats_9 : decode cX6_mostRepeats 9 = .ok (.aload_n 0, 1) := by decide +kernel
theorem dX6_mostRepeats_10 : decode cX6_mostRepeats 10 = .ok (.getfield 27, 3) := by decide +kernel
theorem dX6_mostRepeats_13 : decode cX6_mostRepeats 13 = .ok (.iload_n 1, 1) := by decide +kernel
theorem dX6_mostRepeats_14 : decode cX6_mostRepeats 14 = .ok (.aaload, 1) := by decide +kernel
theorem dX6_mostRepeats_15 : decode cX6_mostRepeats 15 = .ok (.invokevirtual 116, 3) := by decide +kernel
theorem dX6_mostRepeats_18 : decode cX6_mostRepeats 18 = .ok (.iconst 1, 1) := by decide +kernel
theorem dX6_mostRepeats_19 : decode cX6_mostRepeats 19 = .ok (.isub, 1) := by decide +kernel
theorem dX6_mostRepeats_20 : decode cX6_mostRepeats 20 = .ok (.ireturn, 1) := by decide +kernel
set_option maxRecDepth 20000 in
theorem ggX6_fewestTimes_X6_mostRepeats : GoodIn wsX6_fewestTimes wsX6_mostRepeats := goodIn_ca (goodIn_r _ [10, 4, 11, 12, 13, 9, 14, 2, 15, 16, 17, 18, 19, 20, 21, 22, 23, 24, 25, 26, 27, 28, 29, 30, 31, 32, 33, 34, 35, 63, 64, 65, 66, 67, 68, 69, 70, 71, 72, 73, 74, 75, 76, 77, 84, 85, 86, 87, 88] (by decide +kernel) (by decide +kernel)) (goodIn_sub (fun _ h => List.mem_cons_of_mem _ (List.mem_append_right _ h)) (by decide +kernel))
set_option maxRecDepth 20000 in
theorem gX6_fewestTimes_X6_mostRepeats : GoodIn wsX6_fewestTimes (wsV RX6 173 RX6 yX6_mostRepeats wsX6_mostRepeats) := goodIn_app (goodIn_of _ (by decide +kernel)) ggX6_fewestTimes_X6_mostRepeats
set_option maxRecDepth 20000 in
theorem ggX6_fewestTimes_X3_copy : GoodIn wsX6_fewestTimes wsX3_copy := goodIn_ca (goodIn_r _ [39, 20, 21, 84, 85] (by decide +kernel) (by decide +kernel)) (goodIn_sub (fun _ h => List.mem_cons_of_mem _ (List.mem_append_right _ h)) (by decide +kernel))
set_option maxRecDepth 20000 in
theorem gX6_fewestTimes_X3_copy : GoodIn wsX6_fewestTimes (wsV RX6 244 RX3 yX3_copy wsX3_copy) := goodIn_app (goodIn_of _ (by decide +kernel)) ggX6_fewestTimes_X3_copy
set_option maxRecDepth 20000 in
theorem ggX6_fewestTimes_X3_follow : GoodIn wsX6_fewestTimes wsX3_follow := goodIn_ca (goodIn_r _ [31, 20, 21, 84, 85, 86, 87, 88] (by decide +kernel) (by decide +kernel)) (goodIn_sub (fun _ h => List.mem_cons_of_mem _ (List.mem_append_right _ h)) (by decide +kernel))
set_option maxRecDepth 20000 in
theorem gX6_fewestTimes_X3_follow : GoodIn wsX6_fewestTimes (wsV RX6 158 RX3 yX3_follow wsX3_follow) := goodIn_app (goodIn_of _ (by decide +kernel)) ggX6_fewestTimes_X3_follow
set_option maxRecDepth 20000 in
theorem ggX6_fewestTimes_X1_numberOf : GoodIn wsX6_fewestTimes wsX1_numberOf := goodIn_ca (goodIn_r _ [44, 45, 46, 47, 48, 49, 50, 51, 52, 53, 54, 55, 89, 90, 91, 92, 93, 94, 95, 96, 84, 85] (by decide +kernel) (by decide +kernel)) (goodIn_sub (fun _ h => List.mem_cons_of_mem _ (List.mem_append_right _ h)) (by decide +kernel))
set_option maxRecDepth 20000 in
theorem gX6_fewestTimes_X1_numberOf : GoodIn wsX6_fewestTimes (wsV RX6 148 RX1 yX1_numberOf wsX1_numberOf) := goodIn_app (goodIn_of _ (by decide +kernel)) ggX6_fewestTimes_X1_numberOf
set_option maxRecDepth 20000 in
theorem ggX6_fewestTimes_X5_look : GoodIn wsX6_fewestTimes wsX5_look := goodIn_ca (goodIn_r _ [60, 61, 62, 78, 79, 80, 81, 82, 83] (by decide +kernel) (by decide +kernel)) (goodIn_sub (fun _ h => List.mem_cons_of_mem _ (List.mem_append_right _ h)) (by decide +kernel))
set_option maxRecDepth 20000 in
theorem gX6_fewestTimes_X5_look : GoodIn wsX6_fewestTimes (wsV RX6 180 RX5 yX5_look wsX5_look) := goodIn_app (goodIn_of _ (by decide +kernel)) ggX6_fewestTimes_X5_look
theorem dX6_fewestTimes_0 : decode cX6_fewestTimes 0 = .ok (.aload_n 0, 1) := by decide +kernel
theorem dX6_fewestTimes_1 : decode cX6_fewestTimes 1 = .ok (.iload_n 1, 1) := by decide +kernel
theorem dX6_fewestTimes_2 : decode cX6_fewestTimes 2 = .ok (.aload_n 0, 1) := by decide +kernel
theorem dX6_fewestTimes_3 : decode cX6_fewestTimes 3 = .ok (.getfield 79, 3) := by decide +kernel
theorem dX6_fewestTimes_6 : decode cX6_fewestTimes 6 = .ok (.getfield 241, 3) := by decide +kernel
theorem dX6_fewestTimes_9 : decode cX6_fewestTimes 9 = .ok (.invokevirtual 173, 3) := by decide +kernel
theorem dX6_fewestTimes_12 : decode cX6_fewestTimes 12 = .ok (.istore_n 3, 1) := by decide +kernel
theorem dX6_fewestTimes_13 : decode cX6_fewestTimes 13 = .ok (.aload_n 0, 1) := by decide +kernel
theorem dX6_fewestTimes_14 : decode cX6_fewestTimes 14 = .ok (.getfield 55, 3) := by decide +kernel
theorem dX6_fewestTimes_17 : decode cX6_fewestTimes 17 = .ok (.aload_n 0, 1) := by decide +kernel
theorem dX6_fewestTimes_18 : decode cX6_fewestTimes 18 = .ok (.getfield 51, 3) := by decide +kernel
theorem dX6_fewestTimes_21 : decode cX6_fewestTimes 21 = .ok (.invokevirtual 244, 3) := by decide +kernel
theorem dX6_fewestTimes_24 : decode cX6_fewestTimes 24 = .ok (.iconst 1, 1) := by decide +kernel
theorem dX6_fewestTimes_25 : decode cX6_fewestTimes 25 = .ok (.istore 4, 2) := by decide +kernel
theorem dX6_fewestTimes_27 : decode cX6_fewestTimes 27 = .ok (.iload 4, 2) := by decide +kernel
theorem dX6_fewestTimes_29 : decode cX6_fewestTimes 29 = .ok (.iload_n 3, 1) := by decide +kernel
theorem dX6_fewestTimes_30 : decode cX6_fewestTimes 30 = .ok (.if_icmp .gt 58, 3) := by decide +kernel
theorem dX6_fewestTimes_33 : decode cX6_fewestTimes 33 = .ok (.aload_n 0, 1) := by decide +kernel
theorem dX6_fewestTimes_34 : decode cX6_fewestTimes 34 = .ok (.getfield 55, 3) := by decide +kernel
theorem dX6_fewestTimes_37 : decode cX6_fewestTimes 37 = .ok (.aload_n 0, 1) := by decide +kernel
theorem dX6_fewestTimes_38 : decode cX6_fewestTimes 38 = .ok (.getfield 27, 3) := by decide +kernel
theorem dX6_fewestTimes_41 : decode cX6_fewestTimes 41 = .ok (.iload_n 1, 1) := by decide +kernel
theorem dX6_fewestTimes_42 : decode cX6_fewestTimes 42 = .ok (.aaload, 1) := by decide +kernel
theorem dX6_fewestTimes_43 : decode cX6_fewestTimes 43 = .ok (.invokevirtual 158, 3) := by decide +kernel
theorem dX6_fewestTimes_46 : decode cX6_fewestTimes 46 = .ok (.aload_n 0, 1) := by decide +kernel
theorem dX6_fewestTimes_47 : decode cX6_fewestTimes 47 = .ok (.getfield 79, 3) := by decide +kernel
theorem dX6_fewestTimes_50 : decode cX6_fewestTimes 50 = .ok (.aload_n 0, 1) := by decide +kernel
theorem dX6_fewestTimes_51 : decode cX6_fewestTimes 51 = .ok (.getfield 42, 3) := by decide +kernel
theorem dX6_fewestTimes_54 : decode cX6_fewestTimes 54 = .ok (.aload_n 0, 1) := by decide +kernel
theorem dX6_fewestTimes_55 : decode cX6_fewestTimes 55 = .ok (.getfield 55, 3) := by decide +kernel
theorem dX6_fewestTimes_58 : decode cX6_fewestTimes 58 = .ok (.invokevirtual 148, 3) := by decide +kernel
theorem dX6_fewestTimes_61 : decode cX6_fewestTimes 61 = .ok (.invokevirtual 180, 3) := by decide +kernel
theorem dX6_fewestTimes_64 : decode cX6_fewestTimes 64 = .ok (.istore 5, 2) := by decide +kernel
theorem dX6_fewestTimes_66 : decode cX6_fewestTimes 66 = .ok (.iload 5, 2) := by decide +kernel
theorem dX6_fewestTimes_68 : decode cX6_fewestTimes 68 = .ok (.ifCond .lt 14, 3) := by decide +kernel
theorem dX6_fewestTimes_71 : decode cX6_fewestTimes 71 = .ok (.iload 5, 2) := by decide +kernel
theorem dX6_fewestTimes_73 : decode cX6_fewestTimes 73 = .ok (.iconst 3, 1) := by decide +kernel
theorem dX6_fewestTimes_74 : decode cX6_fewestTimes 74 = .ok (.irem, 1) := by decide +kernel
theorem dX6_fewestTimes_75 : decode cX6_fewestTimes 75 = .ok (.iload_n 2, 1) := by decide +kernel
theorem dX6_fewestTimes_76 : decode cX6_fewestTimes 76 = .ok (.if_icmp .ne 6, 3) := by decide +kernel
theorem dX6_fewestTimes_79 : decode cX6_fewestTimes 79 = .ok (.iload 4, 2) := by decide +kernel
theorem dX6_fewestTimes_81 : decode cX6_fewestTimes 81 = .ok (.ireturn, 1) := by decide +kernel
theorem dX6_fewestTimes_82 : decode cX6_fewestTimes 82 = .ok (.iinc 4 1, 3) := by decide +kernel
theorem dX6_fewestTimes_85 : decode cX6_fewestTimes 85 = .ok (.goto (-58), 3) := by decide +kernel
theorem dX6_fewestTimes_88 : decode cX6_fewestTimes 88 = .ok (.iconst 0, 1) := by decide +kernel
theorem dX6_fewestTimes_89 : decode cX6_fewestTimes 89 = .ok (.ireturn, 1) := by decide +kernel
set_option maxRecDepth 20000 in
theorem ggX6_isGood_X1_has : GoodIn wsX6_isGood wsX1_has := goodIn_ca (goodIn_r _ [9, 10, 38, 39, 40, 41, 42, 43, 44, 45] (by decide +kernel) (by decide +kernel)) (goodIn_sub (fun _ h => List.mem_cons_of_mem _ (List.mem_append_right _ h)) (by decide +kernel))
set_option maxRecDepth 20000 in
theorem gX6_isGood_X1_has : GoodIn wsX6_isGood (wsV RX6 120 RX1 yX1_has wsX1_has) := goodIn_app (goodIn_of _ (by decide +kernel)) ggX6_isGood_X1_has
set_option maxRecDepth 20000 in
theorem ggX6_isGood_X6_isTakenToMove : GoodIn wsX6_isGood wsX6_isTakenToMove := goodIn_ca (goodIn_r _ [15, 3, 4, 16, 17, 18, 19, 20, 21, 22, 23, 24, 25, 26, 27, 28, 29, 30, 31, 32, 33, 34, 35, 36, 37, 46, 47, 48] (by decide +kernel) (by decide +kernel)) (goodIn_sub (fun _ h => List.mem_cons_of_mem _ (List.mem_append_right _ h)) (by decide +kernel))
set_option maxRecDepth 20000 in
theorem gX6_isGood_X6_isTakenToMove : GoodIn wsX6_isGood (wsV RX6 248 RX6 yX6_isTakenToMove wsX6_isTakenToMove) := goodIn_app (goodIn_of _ (by decide +kernel)) ggX6_isGood_X6_isTakenToMove
theorem dX6_isGood_0 : decode cX6_isGood 0 = .ok (.iconst 0, 1) := by decide +kernel
theorem dX6_isGood_1 : decode cX6_isGood 1 = .ok (.istore_n 2, 1) := by decide +kernel
theorem dX6_isGood_2 : decode cX6_isGood 2 = .ok (.iload_n 2, 1) := by decide +kernel
theorem dX6_isGood_3 : decode cX6_isGood 3 = .ok (.aload_n 0, 1) := by decide +kernel
theorem dX6_isGood_4 : decode cX6_isGood 4 = .ok (.getfield 16, 3) := by decide +kernel
theorem dX6_isGood_7 : decode cX6_isGood 7 = .ok (.if_icmp .ge 35, 3) := by decide +kernel
theorem dX6_isGood_10 : decode cX6_isGood 10 = .ok (.aload_n 0, 1) := by decide +kernel
theorem dX6_isGood_11 : decode cX6_isGood 11 = .ok (.getfield 42, 3) := by decide +kernel
theorem dX6_isGood_14 : decode cX6_isGood 14 = .ok (.iload_n 2, 1) := by decide +kernel
theorem dX6_isGood_15 : decode cX6_isGood 15 = .ok (.invokevirtual 120, 3) := by decide +kernel
theorem dX6_isGood_18 : decode cX6_isGood 18 = .ok (.ifCond .eq 18, 3) := by decide +kernel
theorem dX6_isGood_21 : decode cX6_isGood 21 = .ok (.aload_n 0, 1) := by decide +kernel
theorem dX6_isGood_22 : decode cX6_isGood 22 = .ok (.getfield 42, 3) := by decide +kernel
theorem dX6_isGood_25 : decode cX6_isGood 25 = .ok (.aload_n 1, 1) := by decide +kernel
theorem dX6_isGood_26 : decode cX6_isGood 26 = .ok (.iload_n 2, 1) := by decide +kernel
theorem dX6_isGood_27 : decode cX6_isGood 27 = .ok (.iaload, 1) := by decide +kernel
theorem dX6_isGood_28 : decode cX6_isGood 28 = .ok (.invokevirtual 120, 3) := by decide +kernel
theorem dX6_isGood_31 : decode cX6_isGood 31 = .ok (.ifCond .ne 5, 3) := by decide +kernel
theorem dX6_isGood_34 : decode cX6_isGood 34 = .ok (.iconst 0, 1) := by decide +kernel
theorem dX6_isGood_35 : decode cX6_isGood 35 = .ok (.ireturn, 1) := by decide +kernel
theorem dX6_isGood_36 : decode cX6_isGood 36 = .ok (.iinc 2 1, 3) := by decide +kernel
theorem dX6_isGood_39 : decode cX6_isGood 39 = .ok (.goto (-37), 3) := by decide +kernel
theorem dX6_isGood_42 : decode cX6_isGood 42 = .ok (.iconst 0, 1) := by decide +kernel
theorem dX6_isGood_43 : decode cX6_isGood 43 = .ok (.istore_n 2, 1) := by decide +kernel
theorem dX6_isGood_44 : decode cX6_isGood 44 = .ok (.iload_n 2, 1) := by decide +kernel
theorem dX6_isGood_45 : decode cX6_isGood 45 = .ok (.aload_n 0, 1) := by decide +kernel
theorem dX6_isGood_46 : decode cX6_isGood 46 = .ok (.getfield 90, 3) := by decide +kernel
theorem dX6_isGood_49 : decode cX6_isGood 49 = .ok (.if_icmp .ge 25, 3) := by decide +kernel
theorem dX6_isGood_52 : decode cX6_isGood 52 = .ok (.aload_n 0, 1) := by decide +kernel
theorem dX6_isGood_53 : decode cX6_isGood 53 = .ok (.aload_n 0, 1) := by decide +kernel
theorem dX6_isGood_54 : decode cX6_isGood 54 = .ok (.getfield 27, 3) := by decide +kernel
theorem dX6_isGood_57 : decode cX6_isGood 57 = .ok (.iload_n 2, 1) := by decide +kernel
theorem dX6_isGood_58 : decode cX6_isGood 58 = .ok (.aaload, 1) := by decide +kernel
theorem dX6_isGood_59 : decode cX6_isGood 59 = .ok (.aload_n 1, 1) := by decide +kernel
theorem dX6_isGood_60 : decode cX6_isGood 60 = .ok (.invokevirtual 248, 3) := by decide +kernel
theorem dX6_isGood_63 : decode cX6_isGood 63 = .ok (.ifCond .ne 5, 3) := by decide +kernel
theorem dX6_isGood_66 : decode cX6_isGood 66 = .ok (.iconst 0, 1) := by decide +kernel
theorem dX6_isGood_67 : decode cX6_isGood 67 = .ok (.ireturn, 1) := by decide +kernel
theorem dX6_isGood_68 : decode cX6_isGood 68 = .ok (.iinc 2 1, 3) := by decide +kernel
theorem dX6_isGood_71 : decode cX6_isGood 71 = .ok (.goto (-27), 3) := by decide +kernel
theorem dX6_isGood_74 : decode cX6_isGood 74 = .ok (.iconst 1, 1) := by decide +kernel
theorem dX6_isGood_75 : decode cX6_isGood 75 = .ok (.ireturn, 1) := by decide +kernel
set_option maxRecDepth 20000 in
theorem ggX6_isTakenToMove_X0_isImage : GoodIn wsX6_isTakenToMove wsX0_isImage := goodIn_ca (goodIn_r _ [7, 8, 9, 25, 26, 27] (by decide +kernel) (by decide +kernel)) (goodIn_sub (fun _ h => List.mem_cons_of_mem _ (List.mem_append_right _ h)) (by decide +kernel))
set_option maxRecDepth 20000 in
theorem gX6_isTakenToMove_X0_isImage : GoodIn wsX6_isTakenToMove (wsV RX6 252 RX0 yX0_isImage wsX0_isImage) := goodIn_app (goodIn_of _ (by decide +kernel)) ggX6_isTakenToMove_X0_isImage
theorem dX6_isTakenToMove_0 : decode cX6_isTakenToMove 0 = .ok (.iconst 0, 1) := by decide +kernel
theorem dX6_isTakenToMove_1 : decode cX6_isTakenToMove 1 = .ok (.istore_n 3, 1) := by decide +kernel
theorem dX6_isTakenToMove_2 : decode cX6_isTakenToMove 2 = .ok (.iload_n 3, 1) := by decide +kernel
theorem dX6_isTakenToMove_3 : decode cX6_isTakenToMove 3 = .ok (.aload_n 0, 1) := by decide +kernel
theorem dX6_isTakenToMove_4 : decode cX6_isTakenToMove 4 = .ok (.getfield 90, 3) := by decide +kernel
theorem dX6_isTakenToMove_7 : decode cX6_isTakenToMove 7 = .ok (.if_icmp .ge 25, 3) := by decide +kernel
theorem dX6_isTakenToMove_10 : decode cX6_isTakenToMove 10 = .ok (.aload_n 0, 1) := by decide +kernel
theorem dX6_isTakenToMove_11 : decode cX6_isTakenToMove 11 = .ok (.getfield 27, 3) := by decide +kernel
theorem dX6_isTakenToMove_14 : decode cX6_isTakenToMove 14 = .ok (.iload_n 3, 1) := by decide +kernel
theorem dX6_isTakenToMove_15 : decode cX6_isTakenToMove 15 = .ok (.aaload, 1) := by decide +kernel
theorem dX6_isTakenToMove_16 : decode cX6_isTakenToMove 16 = .ok (.aload_n 1, 1) := by decide +kernel
theorem dX6_isTakenToMove_17 : decode cX6_isTakenToMove 17 = .ok (.aload_n 2, 1) := by decide +kernel
theorem dX6_isTakenToMove_18 : decode cX6_isTakenToMove 18 = .ok (.invokevirtual 252, 3) := by decide +kernel
theorem dX6_isTakenToMove_21 : decode cX6_isTakenToMove 21 = .ok (.ifCond .eq 5, 3) := by decide +kernel
theorem dX6_isTakenToMove_24 : decode cX6_isTakenToMove 24 = .ok (.iconst 1, 1) := by decide +kernel
theorem dX6_isTakenToMove_25 : decode cX6_isTakenToMove 25 = .ok (.ireturn, 1) := by decide +kernel
theorem dX6_isTakenToMove_26 : decode cX6_isTakenToMove 26 = .ok (.iinc 3 1, 3) := by decide +kernel
theorem dX6_isTakenToMove_29 : decode cX6_isTakenToMove 29 = .ok (.goto (-27), 3) := by decide +kernel
theorem dX6_isTakenToMove_32 : decode cX6_isTakenToMove 32 = .ok (.iconst 0, 1) := by decide +kernel
theorem dX6_isTakenToMove_33 : decode cX6_isTakenToMove 33 = .ok (.ireturn, 1) := by decide +kernel
set_option maxRecDepth 20000 in
theorem ggX6_workOutOrbits_X2_begin : GoodIn wsX6_workOutOrbits wsX2_begin := goodIn_ca (goodIn_r _ [11, 12, 13, 14, 15, 16, 17, 18, 19, 20, 21, 22, 23, 24, 25, 26, 27, 28, 29, 30, 31, 132, 133, 134, 135, 136, 137, 138, 139, 140, 141, 142, 143, 144, 145, 146, 147] (by decide +kernel) (by decide +kernel)) (goodIn_sub (fun _ h => List.mem_cons_of_mem _ (List.mem_append_right _ h)) (by decide +kernel))
set_option maxRecDepth 20000 in
theorem gX6_workOutOrbits_X2_begin : GoodIn wsX6_workOutOrbits (wsV RX6 258 RX2 yX2_begin wsX2_begin) := goodIn_app (goodIn_of _ (by decide +kernel)) ggX6_workOutOrbits_X2_begin
set_option maxRecDepth 20000 in
theorem ggX6_workOutOrbits_X6_isGood : GoodIn wsX6_workOutOrbits wsX6_isGood := goodIn_ca (goodIn_r _ [35, 36, 2, 37, 38, 39, 40, 41, 22, 42, 43, 44, 45, 46, 27, 47, 48, 49, 50, 51, 52, 53, 54, 117, 118, 119, 120, 121, 122, 123, 124, 125, 126, 127, 128, 129, 130, 131, 140, 141, 142, 143, 144, 145, 146, 147, 148, 149, 150] (by decide +kernel) (by decide +kernel)) (goodIn_sub (fun _ h => List.mem_cons_of_mem _ (List.mem_append_right _ h)) (by decide +kernel))
set_option maxRecDepth 20000 in
theorem gX6_workOutOrbits_X6_isGood : GoodIn wsX6_workOutOrbits (wsV RX6 207 RX6 yX6_isGood wsX6_isGood) := goodIn_app (goodIn_of _ (by decide +kernel)) ggX6_workOutOrbits_X6_isGood
set_option maxRecDepth 20000 in
theorem ggX6_workOutOrbits_X2_learn : GoodIn wsX6_workOutOrbits wsX2_learn := goodIn_ca (goodIn_r _ [58, 13, 14, 16, 17, 59, 60, 61, 22, 62, 25, 63, 64, 65, 66, 67, 68, 69, 70, 71, 72, 73, 74, 75, 76, 77, 78, 79, 80, 81, 82, 83, 84, 85, 86, 87, 88, 89, 90, 91, 92, 93, 94, 95, 96, 97, 132, 133, 134, 135, 136, 137, 138, 139, 140, 141, 142, 143, 144, 145, 146, 147, 151, 152] (by decide +kernel) (by decide +kernel)) (goodIn_sub (fun _ h => List.mem_cons_of_mem _ (List.mem_append_right _ h)) (by decide +kernel))
set_option maxRecDepth 20000 in
theorem gX6_workOutOrbits_X2_learn : GoodIn wsX6_workOutOrbits (wsV RX6 262 RX2 yX2_learn wsX2_learn) := goodIn_app (goodIn_of _ (by decide +kernel)) ggX6_workOutOrbits_X2_learn
set_option maxRecDepth 20000 in
theorem ggX6_workOutOrbits_X2_joinImages : GoodIn wsX6_workOutOrbits wsX2_joinImages := goodIn_ca (goodIn_r _ [101, 13, 14, 16, 17, 102, 103, 104, 10, 105, 15, 106, 107, 108, 109, 110, 111, 112, 18, 113, 114, 115, 116, 12, 132, 133, 134, 135, 136, 137, 138, 139] (by decide +kernel) (by decide +kernel)) (goodIn_sub (fun _ h => List.mem_cons_of_mem _ (List.mem_append_right _ h)) (by decide +kernel))
set_option maxRecDepth 20000 in
theorem gX6_workOutOrbits_X2_joinImages : GoodIn wsX6_workOutOrbits (wsV RX6 265 RX2 yX2_joinImages wsX2_joinImages) := goodIn_app (goodIn_of _ (by decide +kernel)) ggX6_workOutOrbits_X2_joinImages
theorem dX6_workOutOrbits_0 : decode cX6_workOutOrbits 0 = .ok (.aload_n 0, 1) := by decide +kernel
theorem dX6_workOutOrbits_1 : decode cX6_workOutOrbits 1 = .ok (.getfield 86, 3) := by decide +kernel
theorem dX6_workOutOrbits_4 : decode cX6_workOutOrbits 4 = .ok (.getfield 255, 3) := by decide +kernel
theorem dX6_workOutOrbits_7 : decode cX6_workOutOrbits 7 = .ok (.ifCond .eq 4, 3) := by decide +kernel
theorem dX6_workOutOrbits_10 : decode cX6_workOutOrbits 10 = .ok (.return_, 1) := by decide +kernel
theorem dX6_workOutOrbits_11 : decode cX6_workOutOrbits 11 = .ok (.aload_n 0, 1) := by decide +kernel
theorem dX6_workOutOrbits_12 : decode cX6_workOutOrbits 12 = .ok (.getfield 86, 3) := by decide +kernel
theorem dX6_workOutOrbits_15 : decode cX6_workOutOrbits 15 = .ok (.aload_n 0, 1) := by decide +kernel
theorem dX6_workOutOrbits_16 : decode cX6_workOutOrbits 16 = .ok (.getfield 42, 3) := by decide +kernel
theorem dX6_workOutOrbits_19 : decode cX6_workOutOrbits 19 = .ok (.invokevirtual 258, 3) := by decide +kernel
theorem dX6_workOutOrbits_22 : decode cX6_workOutOrbits 22 = .ok (.iconst 0, 1) := by decide +kernel
theorem dX6_workOutOrbits_23 : decode cX6_workOutOrbits 23 = .ok (.istore_n 1, 1) := by decide +kernel
theorem dX6_workOutOrbits_24 : decode cX6_workOutOrbits 24 = .ok (.iload_n 1, 1) := by decide +kernel
theorem dX6_workOutOrbits_25 : decode cX6_workOutOrbits 25 = .ok (.aload_n 0, 1) := by decide +kernel
theorem dX6_workOutOrbits_26 : decode cX6_workOutOrbits 26 = .ok (.getfield 200, 3) := by decide +kernel
theorem dX6_workOutOrbits_29 : decode cX6_workOutOrbits 29 = .ok (.if_icmp .ge 54, 3) := by decide +kernel
theorem dX6_workOutOrbits_32 : decode cX6_workOutOrbits 32 = .ok (.aload_n 0, 1) := by decide +kernel
theorem dX6_workOutOrbits_33 : decode cX6_workOutOrbits 33 = .ok (.aload_n 0, 1) := by decide +kernel
theorem dX6_workOutOrbits_34 : decode cX6_workOutOrbits 34 = .ok (.getfield 36, 3) := by decide +kernel
theorem dX6_workOutOrbits_37 : decode cX6_workOutOrbits 37 = .ok (.iload_n 1, 1) := by decide +kernel
theorem dX6_workOutOrbits_38 : decode cX6_workOutOrbits 38 = .ok (.aaload, 1) := by decide +kernel
theorem dX6_workOutOrbits_39 : decode cX6_workOutOrbits 39 = .ok (.invokevirtual 207, 3) := by decide +kernel
theorem dX6_workOutOrbits_42 : decode cX6_workOutOrbits 42 = .ok (.ifCond .eq 35, 3) := by decide +kernel
theorem dX6_workOutOrbits_45 : decode cX6_workOutOrbits 45 = .ok (.aload_n 0, 1) := by decide +kernel
theorem dX6_workOutOrbits_46 : decode cX6_workOutOrbits 46 = .ok (.getfield 86, 3) := by decide +kernel
theorem dX6_workOutOrbits_49 : decode cX6_workOutOrbits 49 = .ok (.aload_n 0, 1) := by decide +kernel
theorem dX6_workOutOrbits_50 : decode cX6_workOutOrbits 50 = .ok (.getfield 36, 3) := by decide +kernel
theorem dX6_workOutOrbits_53 : decode cX6_workOutOrbits 53 = .ok (.iload_n 1, 1) := by decide +kernel
theorem dX6_workOutOrbits_54 : decode cX6_workOutOrbits 54 = .ok (.aaload, 1) := by decide +kernel
theorem dX6_workOutOrbits_55 : decode cX6_workOutOrbits 55 = .ok (.aload_n 0, 1) := by decide +kernel
theorem dX6_workOutOrbits_56 : decode cX6_workOutOrbits 56 = .ok (.getfield 42, 3) := by decide +kernel
theorem dX6_workOutOrbits_59 : decode cX6_workOutOrbits 59 = .ok (.aload_n 0, 1) := by decide +kernel
theorem dX6_workOutOrbits_60 : decode cX6_workOutOrbits 60 = .ok (.getfield 55, 3) := by decide +kernel
theorem dX6_workOutOrbits_63 : decode cX6_workOutOrbits 63 = .ok (.aload_n 0, 1) := by decide +kernel
theorem dX6_workOutOrbits_64 : decode cX6_workOutOrbits 64 = .ok (.getfield 58, 3) := by decide +kernel
theorem dX6_workOutOrbits_67 : decode cX6_workOutOrbits 67 = .ok (.invokevirtual 262, 3) := by decide +kernel
theorem dX6_workOutOrbits_70 : decode cX6_workOutOrbits 70 = .ok (.aload_n 0, 1) := by decide +kernel
theorem dX6_workOutOrbits_71 : decode cX6_workOutOrbits 71 = .ok (.getfield 86, 3) := by decide +kernel
theorem dX6_workOutOrbits_74 : decode cX6_workOutOrbits 74 = .ok (.invokevirtual 265, 3) := by decide +kernel
theorem dX6_workOutOrbits_77 : decode cX6_workOutOrbits 77 = .ok (.iinc 1 1, 3) := by decide +kernel
theorem dX6_workOutOrbits_80 : decode cX6_workOutOrbits 80 = .ok (.goto (-56), 3) := by decide +kernel
theorem dX6_workOutOrbits_83 : decode cX6_workOutOrbits 83 = .ok (.aload_n 0, 1) := by decide +kernel
theorem dX6_workOutOrbits_84 : decode cX6_workOutOrbits 84 = .ok (.getfield 86, 3) := by decide +kernel
theorem dX6_workOutOrbits_87 : decode cX6_workOutOrbits 87 = .ok (.iconst 1, 1) := by decide +kernel
theorem dX6_workOutOrbits_88 : decode cX6_workOutOrbits 88 = .ok (.putfield 255, 3) := by decide +kernel
theorem dX6_workOutOrbits_91 : decode cX6_workOutOrbits 91 = .ok (.return_, 1) := by decide +kernel
theorem dX6_headerByte_0 : decode cX6_headerByte 0 = .ok (.iload_n 1, 1) := by decide +kernel
theorem dX6_headerByte_1 : decode cX6_headerByte 1 = .ok (.tableswitch 59 0 4 #[35, 38, 41, 46, 51], 35) := by decide +kernel
theorem dX6_headerByte_36 : decode cX6_headerByte 36 = .ok (.bipush 67, 2) := by decide +kernel
theorem dX6_headerByte_38 : decode cX6_headerByte 38 = .ok (.ireturn, 1) := by decide +kernel
theorem dX6_headerByte_39 : decode cX6_headerByte 39 = .ok (.bipush 84, 2) := by decide +kernel
theorem dX6_headerByte_41 : decode cX6_headerByte 41 = .ok (.ireturn, 1) := by decide +kernel
theorem dX6_headerByte_42 : decode cX6_headerByte 42 = .ok (.aload_n 0, 1) := by decide +kernel
theorem dX6_headerByte_43 : decode cX6_headerByte 43 = .ok (.getfield 16, 3) := by decide +kernel
theorem dX6_headerByte_46 : decode cX6_headerByte 46 = .ok (.ireturn, 1) := by decide +kernel
theorem dX6_headerByte_47 : decode cX6_headerByte 47 = .ok (.aload_n 0, 1) := by decide +kernel
theorem dX6_headerByte_48 : decode cX6_headerByte 48 = .ok (.getfield 22, 3) := by decide +kernel
theorem dX6_headerByte_51 : decode cX6_headerByte 51 = .ok (.ireturn, 1) := by decide +kernel
theorem dX6_headerByte_52 : decode cX6_headerByte 52 = .ok (.aload_n 0, 1) := by decide +kernel
theorem dX6_headerByte_53 : decode cX6_headerByte 53 = .ok (.getfield 42, 3) := by decide +kernel
theorem dX6_headerByte_56 : decode cX6_headerByte 56 = .ok (.getfield 124, 3) := by decide +kernel
theorem dX6_headerByte_59 : decode cX6_headerByte 59 = .ok (.ireturn, 1) := by decide +kernel
theorem dX6_headerByte_60 : decode cX6_headerByte 60 = .ok (.aload_n 0, 1) := by decide +kernel
theorem dX6_headerByte_61 : decode cX6_headerByte 61 = .ok (.getfield 79, 3) := by decide +kernel
theorem dX6_headerByte_64 : decode cX6_headerByte 64 = .ok (.getfield 241, 3) := by decide +kernel
theorem dX6_headerByte_67 : decode cX6_headerByte 67 = .ok (.ireturn, 1) := by decide +kernel
set_option maxRecDepth 20000 in
theorem ggX6_checkByte_X6_headerByte : GoodIn wsX6_checkByte wsX6_headerByte := goodIn_r _ [6, 7, 8, 9, 1, 29, 30, 31, 32, 33, 34, 35, 36, 37, 38, 39, 40, 41, 42, 43, 44, 45, 46, 47, 48, 49, 50, 51, 52, 53, 54, 55, 56, 57] (by decide +kernel) (by decide +kernel)
set_option maxRecDepth 20000 in
theorem gX6_checkByte_X6_headerByte : GoodIn wsX6_checkByte (wsV RX6 223 RX6 yX6_headerByte wsX6_headerByte) := goodIn_app (goodIn_of _ (by decide +kernel)) ggX6_checkByte_X6_headerByte
set_option maxRecDepth 20000 in
theorem ggX6_checkByte_X5_bodyBytes : GoodIn wsX6_checkByte wsX5_bodyBytes := goodIn_r _ [14, 15, 52, 53, 54, 55, 56, 57] (by decide +kernel) (by decide +kernel)
set_option maxRecDepth 20000 in
theorem gX6_checkByte_X5_bodyBytes : GoodIn wsX6_checkByte (wsV RX6 220 RX5 yX5_bodyBytes wsX5_bodyBytes) := goodIn_app (goodIn_of _ (by decide +kernel)) ggX6_checkByte_X5_bodyBytes
set_option maxRecDepth 20000 in
theorem ggX6_checkByte_X5_bodyByte : GoodIn wsX6_checkByte wsX5_bodyByte := goodIn_ca (goodIn_r _ [19, 15, 20, 21, 22, 13, 23, 24, 25, 26, 27, 28, 52, 53, 54, 55, 56, 57] (by decide +kernel) (by decide +kernel)) (goodIn_sub (fun _ h => List.mem_cons_of_mem _ (List.mem_append_right _ h)) (by decide +kernel))
set_option maxRecDepth 20000 in
theorem gX6_checkByte_X5_bodyByte : GoodIn wsX6_checkByte (wsV RX6 226 RX5 yX5_bodyByte wsX5_bodyByte) := goodIn_app (goodIn_of _ (by decide +kernel)) ggX6_checkByte_X5_bodyByte
theorem dX6_checkByte_0 : decode cX6_checkByte 0 = .ok (.iconst 0, 1) := by decide +kernel
theorem dX6_checkByte_1 : decode cX6_checkByte 1 = .ok (.istore_n 1, 1) := by decide +kernel
theorem dX6_checkByte_2 : decode cX6_checkByte 2 = .ok (.iconst 0, 1) := by decide +kernel
theorem dX6_checkByte_3 : decode cX6_checkByte 3 = .ok (.istore_n 2, 1) := by decide +kernel
theorem dX6_checkByte_4 : decode cX6_checkByte 4 = .ok (.iload_n 2, 1) := by decide +kernel
theorem dX6_checkByte_5 : decode cX6_checkByte 5 = .ok (.bipush 6, 2) := by decide +kernel
theorem dX6_checkByte_7 : decode cX6_checkByte 7 = .ok (.if_icmp .ge 17, 3) := by decide +kernel
theorem dX6_checkByte_10 : decode cX6_checkByte 10 = .ok (.iload_n 1, 1) := by decide +kernel
theorem dX6_checkByte_11 : decode cX6_checkByte 11 = .ok (.aload_n 0, 1) := by decide +kernel
theorem dX6_checkByte_12 : decode cX6_checkByte 12 = .ok (.iload_n 2, 1) := by decide +kernel
theorem dX6_checkByte_13 : decode cX6_checkByte 13 = .ok (.invokevirtual 223, 3) := by decide +kernel
theorem dX6_checkByte_16 : decode cX6_checkByte 16 = .ok (.iadd, 1) := by decide +kernel
theorem dX6_checkByte_17 : decode cX6_checkByte 17 = .ok (.istore_n 1, 1) := by decide +kernel
theorem dX6_checkByte_18 : decode cX6_checkByte 18 = .ok (.iinc 2 1, 3) := by decide +kernel
theorem dX6_checkByte_21 : decode cX6_checkByte 21 = .ok (.goto (-17), 3) := by decide +kernel
theorem dX6_checkByte_24 : decode cX6_checkByte 24 = .ok (.aload_n 0, 1) := by decide +kernel
theorem dX6_checkByte_25 : decode cX6_checkByte 25 = .ok (.getfield 79, 3) := by decide +kernel
theorem dX6_checkByte_28 : decode cX6_checkByte 28 = .ok (.invokevirtual 220, 3) := by decide +kernel
theorem dX6_checkByte_31 : decode cX6_checkByte 31 = .ok (.istore_n 2, 1) := by decide +kernel
theorem dX6_checkByte_32 : decode cX6_checkByte 32 = .ok (.iconst 0, 1) := by decide +kernel
theorem dX6_checkByte_33 : decode cX6_checkByte 33 = .ok (.istore_n 3, 1) := by decide +kernel
theorem dX6_checkByte_34 : decode cX6_checkByte 34 = .ok (.iload_n 3, 1) := by decide +kernel
theorem dX6_checkByte_35 : decode cX6_checkByte 35 = .ok (.iload_n 2, 1) := by decide +kernel
theorem dX6_checkByte_36 : decode cX6_checkByte 36 = .ok (.if_icmp .ge 24, 3) := by decide +kernel
theorem dX6_checkByte_39 : decode cX6_checkByte 39 = .ok (.iload_n 1, 1) := by decide +kernel
theorem dX6_checkByte_40 : decode cX6_checkByte 40 = .ok (.aload_n 0, 1) := by decide +kernel
theorem dX6_checkByte_41 : decode cX6_checkByte 41 = .ok (.getfield 79, 3) := by decide +kernel
theorem dX6_checkByte_44 : decode cX6_checkByte 44 = .ok (.iload_n 3, 1) := by decide +kernel
theorem dX6_checkByte_45 : decode cX6_checkByte 45 = .ok (.invokevirtual 226, 3) := by decide +kernel
theorem dX6_checkByte_48 : decode cX6_checkByte 48 = .ok (.iadd, 1) := by decide +kernel
theorem dX6_checkByte_49 : decode cX6_checkByte 49 = .ok (.sipush 251, 3) := by decide +kernel
theorem dX6_checkByte_52 : decode cX6_checkByte 52 = .ok (.irem, 1) := by decide +kernel
theorem dX6_checkByte_53 : decode cX6_checkByte 53 = .ok (.istore_n 1, 1) := by decide +kernel
theorem dX6_checkByte_54 : decode cX6_checkByte 54 = .ok (.iinc 3 1, 3) := by decide +kernel
theorem dX6_checkByte_57 : decode cX6_checkByte 57 = .ok (.goto (-23), 3) := by decide +kernel
theorem dX6_checkByte_60 : decode cX6_checkByte 60 = .ok (.iload_n 1, 1) := by decide +kernel
theorem dX6_checkByte_61 : decode cX6_checkByte 61 = .ok (.sipush 251, 3) := by decide +kernel
theorem dX6_checkByte_64 : decode cX6_checkByte 64 = .ok (.irem, 1) := by decide +kernel
theorem dX6_checkByte_65 : decode cX6_checkByte 65 = .ok (.ireturn, 1) := by decide +kernel
theorem dX7_init_0 : decode cX7_init 0 = .ok (.aload_n 0, 1) := by decide +kernel
theorem dX7_init_1 : decode cX7_init 1 = .ok (.invokespecial 1, 3) := by decide +kernel
theorem dX7_init_4 : decode cX7_init 4 = .ok (.aload_n 0, 1) := by decide +kernel
theorem dX7_init_5 : decode cX7_init 5 = .ok (.bipush 48, 2) := by decide +kernel
theorem dX7_init_7 : decode cX7_init 7 = .ok (.newarray .int, 2) := by decide +kernel
theorem dX7_init_9 : decode cX7_init 9 = .ok (.putfield 7, 3) := by decide +kernel
theorem dX7_init_12 : decode cX7_init 12 = .ok (.aload_n 0, 1) := by decide +kernel
theorem dX7_init_13 : decode cX7_init 13 = .ok (.bipush 48, 2) := by decide +kernel
theorem dX7_init_15 : decode cX7_init 15 = .ok (.newarray .int, 2) := by decide +kernel
theorem dX7_init_17 : decode cX7_init 17 = .ok (.putfield 13, 3) := by decide +kernel
theorem dX7_init_20 : decode cX7_init 20 = .ok (.aload_n 0, 1) := by decide +kernel
theorem dX7_init_21 : decode cX7_init 21 = .ok (.bipush 8, 2) := by decide +kernel
theorem dX7_init_23 : decode cX7_init 23 = .ok (.newarray .boolean, 2) := by decide +kernel
theorem dX7_init_25 : decode cX7_init 25 = .ok (.putfield 16, 3) := by decide +kernel
theorem dX7_init_28 : decode cX7_init 28 = .ok (.aload_n 0, 1) := by decide +kernel
theorem dX7_init_29 : decode cX7_init 29 = .ok (.iconst 4, 1) := by decide +kernel
theorem dX7_init_30 : decode cX7_init 30 = .ok (.newarray .int, 2) := by decide +kernel
theorem dX7_init_32 : decode cX7_init 32 = .ok (.putfield 20, 3) := by decide +kernel
theorem dX7_init_35 : decode cX7_init 35 = .ok (.aload_n 0, 1) := by decide +kernel
theorem dX7_init_36 : decode cX7_init 36 = .ok (.iconst 4, 1) := by decide +kernel
theorem dX7_init_37 : decode cX7_init 37 = .ok (.newarray .int, 2) := by decide +kernel
theorem dX7_init_39 : decode cX7_init 39 = .ok (.putfield 23, 3) := by decide +kernel
theorem dX7_init_42 : decode cX7_init 42 = .ok (.aload_n 0, 1) := by decide +kernel
theorem dX7_init_43 : decode cX7_init 43 = .ok (.iconst 4, 1) := by decide +kernel
theorem dX7_init_44 : decode cX7_init 44 = .ok (.newarray .int, 2) := by decide +kernel
theorem dX7_init_46 : decode cX7_init 46 = .ok (.putfield 26, 3) := by decide +kernel
theorem dX7_init_49 : decode cX7_init 49 = .ok (.aload_n 0, 1) := by decide +kernel
theorem dX7_init_50 : decode cX7_init 50 = .ok (.ldc 29, 2) := by decide +kernel
theorem dX7_init_52 : decode cX7_init 52 = .ok (.newarray .int, 2) := by decide +kernel
theorem dX7_init_54 : decode cX7_init 54 = .ok (.putfield 30, 3) := by decide +kernel
theorem dX7_init_57 : decode cX7_init 57 = .ok (.aload_n 0, 1) := by decide +kernel
theorem dX7_init_58 : decode cX7_init 58 = .ok (.ldc 29, 2) := by decide +kernel
theorem dX7_init_60 : decode cX7_init 60 = .ok (.newarray .int, 2) := by decide +kernel
theorem dX7_init_62 : decode cX7_init 62 = .ok (.putfield 33, 3) := by decide +kernel
theorem dX7_init_65 : decode cX7_init 65 = .ok (.aload_n 0, 1) := by decide +kernel
theorem dX7_init_66 : decode cX7_init 66 = .ok (.ldc 29, 2) := by decide +kernel
theorem dX7_init_68 : decode cX7_init 68 = .ok (.newarray .int, 2) := by decide +kernel
theorem dX7_init_70 : decode cX7_init 70 = .ok (.putfield 36, 3) := by decide +kernel
theorem dX7_init_73 : decode cX7_init 73 = .ok (.aload_n 0, 1) := by decide +kernel
theorem dX7_init_74 : decode cX7_init 74 = .ok (.bipush 32, 2) := by decide +kernel
theorem dX7_init_76 : decode cX7_init 76 = .ok (.newarray .int, 2) := by decide +kernel
theorem dX7_init_78 : decode cX7_init 78 = .ok (.putfield 39, 3) := by decide +kernel
theorem dX7_init_81 : decode cX7_init 81 = .ok (.aload_n 0, 1) := by decide +kernel
theorem dX7_init_82 : decode cX7_init 82 = .ok (.iconst 4, 1) := by decide +kernel
theorem dX7_init_83 : decode cX7_init 83 = .ok (.newarray .int, 2) := by decide +kernel
theorem dX7_init_85 : decode cX7_init 85 = .ok (.putfield 42, 3) := by decide +kernel
theorem dX7_init_88 : decode cX7_init 88 = .ok (.aload_n 0, 1) := by decide +kernel
theorem dX7_init_89 : decode cX7_init 89 = .ok (.iconst 4, 1) := by decide +kernel
theorem dX7_init_90 : decode cX7_init 90 = .ok (.newarray .int, 2) := by decide +kernel
theorem dX7_init_92 : decode cX7_init 92 = .ok (.putfield 45, 3) := by decide +kernel
theorem dX7_init_95 : decode cX7_init 95 = .ok (.aload_n 0, 1) := by decide +kernel
theorem dX7_init_96 : decode cX7_init 96 = .ok (.iconst 4, 1) := by decide +kernel
theorem dX7_init_97 : decode cX7_init 97 = .ok (.newarray .boolean, 2) := by decide +kernel
theorem dX7_init_99 : decode cX7_init 99 = .ok (.putfield 48, 3) := by decide +kernel
theorem dX7_init_102 : decode cX7_init 102 = .ok (.aload_n 0, 1) := by decide +kernel
theorem dX7_init_103 : decode cX7_init 103 = .ok (.iload_n 1, 1) := by decide +kernel
theorem dX7_init_104 : decode cX7_init 104 = .ok (.iconst 2, 1) := by decide +kernel
theorem dX7_init_105 : decode cX7_init 105 = .ok (.if_icmp .ge 7, 3) := by decide +kernel
theorem dX7_init_108 : decode cX7_init 108 = .ok (.iconst 2, 1) := by decide +kernel
theorem dX7_init_109 : decode cX7_init 109 = .ok (.goto 15, 3) := by decide +kernel
theorem dX7_init_112 : decode cX7_init 112 = .ok (.iload_n 1, 1) := by decide +kernel
theorem dX7_init_113 : decode cX7_init 113 = .ok (.bipush 8, 2) := by decide +kernel
theorem dX7_init_115 : decode cX7_init 115 = .ok (.if_icmp .le 8, 3) := by decide +kernel
theorem dX7_init_118 : decode cX7_init 118 = .ok (.bipush 8, 2) := by decide +kernel
theorem dX7_init_120 : decode cX7_init 120 = .ok (.goto 4, 3) := by decide +kernel
theorem dX7_init_123 : decode cX7_init 123 = .ok (.iload_n 1, 1) := by decide +kernel
theorem dX7_init_124 : decode cX7_init 124 = .ok (.putfield 51, 3) := by decide +kernel
theorem dX7_init_127 : decode cX7_init 127 = .ok (.aload_n 0, 1) := by decide +kernel
theorem dX7_init_128 : decode cX7_init 128 = .ok (.iload_n 2, 1) := by decide +kernel
theorem dX7_init_129 : decode cX7_init 129 = .ok (.iconst 1, 1) := by decide +kernel
theorem dX7_init_130 : decode cX7_init 130 = .ok (.if_icmp .ge 7, 3) := by decide +kernel
theorem dX7_init_133 : decode cX7_init 133 = .ok (.iconst 1, 1) := by decide +kernel
theorem dX7_init_134 : decode cX7_init 134 = .ok (.goto 13, 3) := by decide +kernel
theorem dX7_init_137 : decode cX7_init 137 = .ok (.iload_n 2, 1) := by decide +kernel
theorem dX7_init_138 : decode cX7_init 138 = .ok (.iconst 3, 1) := by decide +kernel
theorem dX7_init_139 : decode cX7_init 139 = .ok (.if_icmp .le 7, 3) := by decide +kernel
theorem dX7_init_142 : decode cX7_init 142 = .ok (.iconst 3, 1) := by decide +kernel
theorem dX7_init_143 : decode cX7_init 143 = .ok (.goto 4, 3) := by decide +kernel
theorem dX7_init_146 : decode cX7_init 146 = .ok (.iload_n 2, 1) := by decide +kernel
theorem dX7_init_147 : decode cX7_init 147 = .ok (.putfield 55, 3) := by decide +kernel
theorem dX7_init_150 : decode cX7_init 150 = .ok (.return_, 1) := by decide +kernel
theorem dX7_thrown_0 : decode cX7_thrown 0 = .ok (.aload_n 0, 1) := by decide +kernel
theorem dX7_thrown_1 : decode cX7_thrown 1 = .ok (.getfield 58, 3) := by decide +kernel
theorem dX7_thrown_4 : decode cX7_thrown 4 = .ok (.ireturn, 1) := by decide +kernel
theorem dX7_throwsIf_0 : decode cX7_throwsIf 0 = .ok (.aload_n 0, 1) := by decide +kernel
theorem dX7_throwsIf_1 : decode cX7_throwsIf 1 = .ok (.iload_n 2, 1) := by decide +kernel
theorem dX7_throwsIf_2 : decode cX7_throwsIf 2 = .ok (.ifCond .eq 7, 3) := by decide +kernel
theorem dX7_throwsIf_5 : decode cX7_throwsIf 5 = .ok (.iload_n 1, 1) := by decide +kernel
theorem dX7_throwsIf_6 : decode cX7_throwsIf 6 = .ok (.goto 4, 3) := by decide +kernel
theorem dX7_throwsIf_9 : decode cX7_throwsIf 9 = .ok (.iconst 0, 1) := by decide +kernel
theorem dX7_throwsIf_10 : decode cX7_throwsIf 10 = .ok (.putfield 58, 3) := by decide +kernel
theorem dX7_throwsIf_13 : decode cX7_throwsIf 13 = .ok (.iload_n 2, 1) := by decide +kernel
theorem dX7_throwsIf_14 : decode cX7_throwsIf 14 = .ok (.ireturn, 1) := by decide +kernel
theorem dX7_isMove_0 : decode cX7_isMove 0 = .ok (.iload_n 1, 1) := by decide +kernel
theorem dX7_isMove_1 : decode cX7_isMove 1 = .ok (.ifCond .lt 15, 3) := by decide +kernel
theorem dX7_isMove_4 : decode cX7_isMove 4 = .ok (.iload_n 1, 1) := by decide +kernel
theorem dX7_isMove_5 : decode cX7_isMove 5 = .ok (.aload_n 0, 1) := by decide +kernel
theorem dX7_isMove_6 : decode cX7_isMove 6 = .ok (.getfield 61, 3) := by decide +kernel
theorem dX7_isMove_9 : decode cX7_isMove 9 = .ok (.if_icmp .ge 7, 3) := by decide +kernel
theorem dX7_isMove_12 : decode cX7_isMove 12 = .ok (.iconst 1, 1) := by decide +kernel
theorem dX7_isMove_13 : decode cX7_isMove 13 = .ok (.goto 4, 3) := by decide +kernel
theorem dX7_isMove_16 : decode cX7_isMove 16 = .ok (.iconst 0, 1) := by decide +kernel
theorem dX7_isMove_17 : decode cX7_isMove 17 = .ok (.ireturn, 1) := by decide +kernel
theorem dX7_isPlace_0 : decode cX7_isPlace 0 = .ok (.iload_n 1, 1) := by decide +kernel
theorem dX7_isPlace_1 : decode cX7_isPlace 1 = .ok (.ifCond .lt 15, 3) := by decide +kernel
theorem dX7_isPlace_4 : decode cX7_isPlace 4 = .ok (.iload_n 1, 1) := by decide +kernel
theorem dX7_isPlace_5 : decode cX7_isPlace 5 = .ok (.aload_n 0, 1) := by decide +kernel
theorem dX7_isPlace_6 : decode cX7_isPlace 6 = .ok (.getfield 51, 3) := by decide +kernel
theorem dX7_isPlace_9 : decode cX7_isPlace 9 = .ok (.if_icmp .ge 7, 3) := by decide +kernel
theorem dX7_isPlace_12 : decode cX7_isPlace 12 = .ok (.iconst 1, 1) := by decide +kernel
theorem dX7_isPlace_13 : decode cX7_isPlace 13 = .ok (.goto 4, 3) := by decide +kernel
theorem dX7_isPlace_16 : decode cX7_isPlace 16 = .ok (.iconst 0, 1) := by decide +kernel
theorem dX7_isPlace_17 : decode cX7_isPlace 17 = .ok (.ireturn, 1) := by decide +kernel
theorem dX7_move_0 : decode cX7_move 0 = .ok (.aload_n 0, 1) := by decide +kernel
theorem dX7_move_1 : decode cX7_move 1 = .ok (.iconst 0, 1) := by decide +kernel
theorem dX7_move_2 : decode cX7_move 2 = .ok (.putfield 58, 3) := by decide +kernel
theorem dX7_move_5 : decode cX7_move 5 = .ok (.aload_n 0, 1) := by decide +kernel
theorem dX7_move_6 : decode cX7_move 6 = .ok (.getfield 61, 3) := by decide +kernel
theorem dX7_move_9 : decode cX7_move 9 = .ok (.bipush 6, 2) := by decide +kernel
theorem dX7_move_11 : decode cX7_move 11 = .ok (.if_icmp .ne 5, 3) := by decide +kernel
theorem dX7_move_14 : decode cX7_move 14 = .ok (.iconst (-1), 1) := by decide +kernel
theorem dX7_move_15 : decode cX7_move 15 = .ok (.ireturn, 1) := by decide +kernel
theorem dX7_move_16 : decode cX7_move 16 = .ok (.iconst 0, 1) := by decide +kernel
theorem dX7_move_17 : decode cX7_move 17 = .ok (.istore_n 1, 1) := by decide +kernel
theorem dX7_move_18 : decode cX7_move 18 = .ok (.iload_n 1, 1) := by decide +kernel
theorem dX7_move_19 : decode cX7_move 19 = .ok (.bipush 8, 2) := by decide +kernel
theorem dX7_move_21 : decode cX7_move 21 = .ok (.if_icmp .ge 39, 3) := by decide +kernel
theorem dX7_move_24 : decode cX7_move 24 = .ok (.aload_n 0, 1) := by decide +kernel
theorem dX7_move_25 : decode cX7_move 25 = .ok (.getfield 7, 3) := by decide +kernel
theorem dX7_move_28 : decode cX7_move 28 = .ok (.bipush 8, 2) := by decide +kernel
theorem dX7_move_30 : decode cX7_move 30 = .ok (.aload_n 0, 1) := by decide +kernel
theorem dX7_move_31 : decode cX7_move 31 = .ok (.getfield 61, 3) := by decide +kernel
theorem dX7_move_34 : decode cX7_move 34 = .ok (.imul, 1) := by decide +kernel
theorem dX7_move_35 : decode cX7_move 35 = .ok (.iload_n 1, 1) := by decide +kernel
theorem dX7_move_36 : decode cX7_move 36 = .ok (.iadd, 1) := by decide +kernel
theorem dX7_move_37 : decode cX7_move 37 = .ok (.iload_n 1, 1) := by decide +kernel
theorem dX7_move_38 : decode cX7_move 38 = .ok (.iastore, 1) := by decide +kernel
theorem dX7_move_39 : decode cX7_move 39 = .ok (.aload_n 0, 1) := by decide +kernel
theorem dX7_move_40 : decode cX7_move 40 = .ok (.getfield 13, 3) := by decide +kernel
theorem dX7_move_43 : decode cX7_move 43 = .ok (.bipush 8, 2) := by decide +kernel
theorem dX7_move_45 : decode cX7_move 45 = .ok (.aload_n 0, 1) := by decide +kernel
theorem dX7_move_46 : decode cX7_move 46 = .ok (.getfield 61, 3) := by decide +kernel
theorem dX7_move_49 : decode cX7_move 49 = .ok (.imul, 1) := by decide +kernel
theorem dX7_move_50 : decode cX7_move 50 = .ok (.iload_n 1, 1) := by decide +kernel
theorem dX7_move_51 : decode cX7_move 51 = .ok (.iadd, 1) := by decide +kernel
theorem dX7_move_52 : decode cX7_move 52 = .ok (.iconst 0, 1) := by decide +kernel
theorem dX7_move_53 : decode cX7_move 53 = .ok (.iastore, 1) := by decide +kernel
theorem dX7_move_54 : decode cX7_move 54 = .ok (.iinc 1 1, 3) := by decide +kernel
theorem dX7_move_57 : decode cX7_move 57 = .ok (.goto (-39), 3) := by decide +kernel
theorem dX7_move_60 : decode cX7_move 60 = .ok (.aload_n 0, 1) := by decide +kernel
theorem dX7_move_61 : decode cX7_move 61 = .ok (.dup, 1) := by decide +kernel
theorem dX7_move_62 : decode cX7_move 62 = .ok (.getfield 61, 3) := by decide +kernel
theorem dX7_move_65 : decode cX7_move 65 = .ok (.iconst 1, 1) := by decide +kernel
theorem dX7_move_66 : decode cX7_move 66 = .ok (.iadd, 1) := by decide +kernel
theorem dX7_move_67 : decode cX7_move 67 = .ok (.putfield 61, 3) := by decide +kernel
theorem dX7_move_70 : decode cX7_move 70 = .ok (.aload_n 0, 1) := by decide +kernel
theorem dX7_move_71 : decode cX7_move 71 = .ok (.iconst 0, 1) := by decide +kernel
theorem dX7_move_72 : decode cX7_move 72 = .ok (.putfield 64, 3) := by decide +kernel
theorem dX7_move_75 : decode cX7_move 75 = .ok (.aload_n 0, 1) := by decide +kernel
theorem dX7_move_76 : decode cX7_move 76 = .ok (.getfield 61, 3) := by decide +kernel
theorem dX7_move_79 : decode cX7_move 79 = .ok (.iconst 1, 1) := by decide +kernel
theorem dX7_move_80 : decode cX7_move 80 = .ok (.isub, 1) := by decide +kernel
theorem dX7_move_81 : decode cX7_move 81 = .ok (.ireturn, 1) := by decide +kernel
set_option maxRecDepth 20000 in
theorem ggX7_exchange_X7_isMove : GoodIn wsX7_exchange wsX7_isMove := goodIn_r _ [8, 9, 20, 21, 22, 23, 24, 25, 26, 27, 28, 29, 30, 31, 32, 33, 34, 35, 36, 37, 38, 39, 40, 41, 42] (by decide +kernel) (by decide +kernel)
set_option maxRecDepth 20000 in
theorem gX7_exchange_X7_isMove : GoodIn wsX7_exchange (wsV RX7 68 RX7 yX7_isMove wsX7_isMove) := goodIn_app (goodIn_of _ (by decide +kernel)) ggX7_exchange_X7_isMove
set_option maxRecDepth 20000 in
theorem ggX7_exchange_X7_isPlace : GoodIn wsX7_exchange wsX7_isPlace := goodIn_r _ [13, 14, 20, 21, 22, 23, 24, 25, 26, 27, 28, 29, 30, 31, 32, 33, 34, 35, 36, 37, 38, 39, 40, 41, 42] (by decide +kernel) (by decide +kernel)
set_option maxRecDepth 20000 in
theorem gX7_exchange_X7_isPlace : GoodIn wsX7_exchange (wsV RX7 72 RX7 yX7_isPlace wsX7_isPlace) := goodIn_app (goodIn_of _ (by decide +kernel)) ggX7_exchange_X7_isPlace
set_option maxRecDepth 20000 in
theorem ggX7_exchange_X7_throwsIf : GoodIn wsX7_exchange wsX7_throwsIf := goodIn_r _ [18, 19, 20, 21, 22, 23, 24, 25, 26, 27, 28, 29, 30, 31, 32, 33, 34, 35, 36, 37, 38, 39, 40, 41, 42] (by decide +kernel) (by decide +kernel)
set_option maxRecDepth 20000 in
theorem gX7_exchange_X7_throwsIf : GoodIn wsX7_exchange (wsV RX7 75 RX7 yX7_throwsIf wsX7_throwsIf) := goodIn_app (goodIn_of _ (by decide +kernel)) ggX7_exchange_X7_throwsIf
theorem dX7_exchange_0 : decode cX7_exchange 0 = .ok (.aload_n 0, 1) := by decide +kernel
theorem dX7_exchange_1 : decode cX7_exchange 1 = .ok (.iconst 1, 1) := by decide +kernel
theorem dX7_exchange_2 : decode cX7_exchange 2 = .ok (.aload_n 0, 1) := by decide +kernel
theorem dX7_exchange_3 : decode cX7_exchange 3 = .ok (.iload_n 1, 1) := by decide +kernel
theorem dX7_exchange_4 : decode cX7_exchange 4 = .ok (.invokevirtual 68, 3) := by decide +kernel
theorem dX7_exchange_7 : decode cX7_exchange 7 = .ok (.ifCond .eq 19, 3) := by decide +kernel
theorem dX7_exchange_10 : decode cX7_exchange 10 = .ok (.aload_n 0, 1) := by decide +kernel
theorem dX7_exchange_11 : decode cX7_exchange 11 = .ok (.iload_n 2, 1) := by decide +kernel
theorem dX7_exchange_12 : decode cX7_exchange 12 = .ok (.invokevirtual 72, 3) := by decide +kernel
theorem dX7_exchange_15 : decode cX7_exchange 15 = .ok (.ifCond .eq 11, 3) := by decide +kernel
theorem dX7_exchange_18 : decode cX7_exchange 18 = .ok (.aload_n 0, 1) := by decide +kernel
theorem dX7_exchange_19 : decode cX7_exchange 19 = .ok (.iload_n 3, 1) := by decide +kernel
theorem dX7_exchange_20 : decode cX7_exchange 20 = .ok (.invokevirtual 72, 3) := by decide +kernel
theorem dX7_exchange_23 : decode cX7_exchange 23 = .ok (.ifCond .ne 7, 3) := by decide +kernel
theorem dX7_exchange_26 : decode cX7_exchange 26 = .ok (.iconst 1, 1) := by decide +kernel
theorem dX7_exchange_27 : decode cX7_exchange 27 = .ok (.goto 4, 3) := by decide +kernel
theorem dX7_exchange_30 : decode cX7_exchange 30 = .ok (.iconst 0, 1) := by decide +kernel
theorem dX7_exchange_31 : decode cX7_exchange 31 = .ok (.invokevirtual 75, 3) := by decide +kernel
theorem dX7_exchange_34 : decode cX7_exchange 34 = .ok (.ifCond .ne 8, 3) := by decide +kernel
theorem dX7_exchange_37 : decode cX7_exchange 37 = .ok (.iload_n 2, 1) := by decide +kernel
theorem dX7_exchange_38 : decode cX7_exchange 38 = .ok (.iload_n 3, 1) := by decide +kernel
theorem dX7_exchange_39 : decode cX7_exchange 39 = .ok (.if_icmp .ne 5, 3) := by decide +kernel
theorem dX7_exchange_42 : decode cX7_exchange 42 = .ok (.iconst 0, 1) := by decide +kernel
theorem dX7_exchange_43 : decode cX7_exchange 43 = .ok (.ireturn, 1) := by decide +kernel
theorem dX7_exchange_44 : decode cX7_exchange 44 = .ok (.aload_n 0, 1) := by decide +kernel
theorem dX7_exchange_45 : decode cX7_exchange 45 = .ok (.getfield 7, 3) := by decide +kernel
theorem dX7_exchange_48 : decode cX7_exchange 48 = .ok (.bipush 8, 2) := by decide +kernel
theorem dX7_exchange_50 : decode cX7_exchange 50 = .ok (.iload_n 1, 1) := by decide +kernel
theorem dX7_exchange_51 : decode cX7_exchange 51 = .ok (.imul, 1) := by decide +kernel
theorem dX7_exchange_52 : decode cX7_exchange 52 = .ok (.iload_n 2, 1) := by decide +kernel
theorem dX7_exchange_53 : decode cX7_exchange 53 = .ok (.iadd, 1) := by decide +kernel
theorem dX7_exchange_54 : decode cX7_exchange 54 = .ok (.iaload, 1) := by decide +kernel
theorem dX7_exchange_55 : decode cX7_exchange 55 = .ok (.istore 4, 2) := by decide +kernel
theorem dX7_exchange_57 : decode cX7_exchange 57 = .ok (.aload_n 0, 1) := by decide +kernel
theorem dX7_exchange_58 : decode cX7_exchange 58 = .ok (.getfield 13, 3) := by decide +kernel
theorem dX7_exchange_61 : decode cX7_exchange 61 = .ok (.bipush 8, 2) := by decide +kernel
theorem dX7_exchange_63 : decode cX7_exchange 63 = .ok (.iload_n 1, 1) := by decide +kernel
theorem dX7_exchange_64 : decode cX7_exchange 64 = .ok (.imul, 1) := by decide +kernel
theorem dX7_exchange_65 : decode cX7_exchange 65 = .ok (.iload_n 2, 1) := by decide +kernel
theorem dX7_exchange_66 : decode cX7_exchange 66 = .ok (.iadd, 1) := by decide +kernel
theorem dX7_exchange_67 : decode cX7_exchange 67 = .ok (.iaload, 1) := by decide +kernel
theorem dX7_exchange_68 : decode cX7_exchange 68 = .ok (.istore 5, 2) := by decide +kernel
theorem dX7_exchange_70 : decode cX7_exchange 70 = .ok (.aload_n 0, 1) := by decide +kernel
theorem dX7_exchange_71 : decode cX7_exchange 71 = .ok (.getfield 7, 3) := by decide +kernel
theorem dX7_exchange_74 : decode cX7_exchange 74 = .ok (.bipush 8, 2) := by decide +kernel
theorem dX7_exchange_76 : decode cX7_exchange 76 = .ok (.iload_n 1, 1) := by decide +kernel
theorem dX7_exchange_77 : decode cX7_exchange 77 = .ok (.imul, 1) := by decide +kernel
theorem dX7_exchange_78 : decode cX7_exchange 78 = .ok (.iload_n 2, 1) := by decide +kernel
theorem dX7_exchange_79 : decode cX7_exchange 79 = .ok (.iadd, 1) := by decide +kernel
theorem dX7_exchange_80 : decode cX7_exchange 80 = .ok (.aload_n 0, 1) := by decide +kernel
theorem dX7_exchange_81 : decode cX7_exchange 81 = .ok (.getfield 7, 3) := by decide +kernel
theorem dX7_exchange_84 : decode cX7_exchange 84 = .ok (.bipush 8, 2) := by decide +kernel
theorem dX7_exchange_86 : decode cX7_exchange 86 = .ok (.iload_n 1, 1) := by decide +kernel
theorem dX7_exchange_87 : decode cX7_exchange 87 = .ok (.imul, 1) := by decide +kernel
theorem dX7_exchange_88 : decode cX7_exchange 88 = .ok (.iload_n 3, 1) := by decide +kernel
theorem dX7_exchange_89 : decode cX7_exchange 89 = .ok (.iadd, 1) := by decide +kernel
theorem dX7_exchange_90 : decode cX7_exchange 90 = .ok (.iaload, 1) := by decide +kernel
theorem dX7_exchange_91 : decode cX7_exchange 91 = .ok (.iastore, 1) := by decide +kernel
theorem dX7_exchange_92 : decode cX7_exchange 92 = .ok (.aload_n 0, 1) := by decide +kernel
theorem dX7_exchange_93 : decode cX7_exchange 93 = .ok (.getfield 13, 3) := by decide +kernel
theorem dX7_exchange_96 : decode cX7_exchange 96 = .ok (.bipush 8, 2) := by decide +kernel
theorem dX7_exchange_98 : decode cX7_exchange 98 = .ok (.iload_n 1, 1) := by decide +kernel
theorem dX7_exchange_99 : decode cX7_exchange 99 = .ok (.imul, 1) := by decide +kernel
theorem dX7_exchange_100 : decode cX7_exchange 100 = .ok (.iload_n 2, 1) := by decide +kernel
theorem dX7_exchange_101 : decode cX7_exchange 101 = .ok (.iadd, 1) := by decide +kernel
theorem dX7_exchange_102 : decode cX7_exchange 102 = .ok (.aload_n 0, 1) := by decide +kernel
theorem dX7_exchange_103 : decode cX7_exchange 103 = .ok (.getfield 13, 3) := by decide +kernel
theorem dX7_exchange_106 : decode cX7_exchange 106 = .ok (.bipush 8, 2) := by decide +kernel
theorem dX7_exchange_108 : decode cX7_exchange 108 = .ok (.iload_n 1, 1) := by decide +kernel
theorem dX7_exchange_109 : decode cX7_exchange 109 = .ok (.imul, 1) := by decide +kernel
theorem dX7_exchange_110 : decode cX7_exchange 110 = .ok (.iload_n 3, 1) := by decide +kernel
theorem dX7_exchange_111 : decode cX7_exchange 111 = .ok (.iadd, 1) := by decide +kernel
theorem dX7_exchange_112 : decode cX7_exchange 112 = .ok (.iaload, 1) := by decide +kernel
theorem dX7_exchange_113 : decode cX7_exchange 113 = .ok (.iastore, 1) := by decide +kernel
theorem dX7_exchange_114 : decode cX7_exchange 114 = .ok (.aload_n 0, 1) := by decide +kernel
theorem dX7_exchange_115 : decode cX7_exchange 115 = .ok (.getfield 7, 3) := by decide +kernel
theorem dX7_exchange_118 : decode cX7_exchange 118 = .ok (.bipush 8, 2) := by decide +kernel
theorem dX7_exchange_120 : decode cX7_exchange 120 = .ok (.iload_n 1, 1) := by decide +kernel
theorem dX7_exchange_121 : decode cX7_exchange 121 = .ok (.imul, 1) := by decide +kernel
theorem dX7_exchange_122 : decode cX7_exchange 122 = .ok (.iload_n 3, 1) := by decide +kernel
theorem dX7_exchange_123 : decode cX7_exchange 123 = .ok (.iadd, 1) := by decide +kernel
theorem dX7_exchange_124 : decode cX7_exchange 124 = .ok (.iload 4, 2) := by decide +kernel
theorem dX7_exchange_126 : decode cX7_exchange 126 = .ok (.iastore, 1) := by decide +kernel
theorem dX7_exchange_127 : decode cX7_exchange 127 = .ok (.aload_n 0, 1) := by decide +kernel
theorem dX7_exchange_128 : decode cX7_exchange 128 = .ok (.getfield 13, 3) := by decide +kernel
theorem dX7_exchange_131 : decode cX7_exchange 131 = .ok (.bipush 8, 2) := by decide +kernel
theorem dX7_exchange_133 : decode cX7_exchange 133 = .ok (.iload_n 1, 1) := by decide +kernel
theorem dX7_exchange_134 : decode cX7_exchange 134 = .ok (.imul, 1) := by decide +kernel
theorem dX7_exchange_135 : decode cX7_exchange 135 = .ok (.iload_n 3, 1) := by decide +kernel
theorem dX7_exchange_136 : decode cX7_exchange 136 = .ok (.iadd, 1) := by decide +kernel
theorem dX7_exchange_137 : decode cX7_exchange 137 = .ok (.iload 5, 2) := by decide +kernel
theorem dX7_exchange_139 : decode cX7_exchange 139 = .ok (.iastore, 1) := by decide +kernel
theorem dX7_exchange_140 : decode cX7_exchange 140 = .ok (.aload_n 0, 1) := by decide +kernel
theorem dX7_exchange_141 : decode cX7_exchange 141 = .ok (.iconst 0, 1) := by decide +kernel
theorem dX7_exchange_142 : decode cX7_exchange 142 = .ok (.putfield 64, 3) := by decide +kernel
theorem dX7_exchange_145 : decode cX7_exchange 145 = .ok (.iconst 1, 1) := by decide +kernel
theorem dX7_exchange_146 : decode cX7_exchange 146 = .ok (.ireturn, 1) := by decide +kernel
set_option maxRecDepth 20000 in
theorem ggX7_adds_X7_isMove : GoodIn wsX7_adds wsX7_isMove := goodIn_r _ [8, 9, 20, 21, 22, 23, 24, 25, 26, 27, 28, 29, 30, 31, 32, 33, 34, 35, 36, 37, 38, 39, 40, 41, 42] (by decide +kernel) (by decide +kernel)
set_option maxRecDepth 20000 in
theorem gX7_adds_X7_isMove : GoodIn wsX7_adds (wsV RX7 68 RX7 yX7_isMove wsX7_isMove) := goodIn_app (goodIn_of _ (by decide +kernel)) ggX7_adds_X7_isMove
set_option maxRecDepth 20000 in
theorem ggX7_adds_X7_isPlace : GoodIn wsX7_adds wsX7_isPlace := goodIn_r _ [13, 14, 20, 21, 22, 23, 24, 25, 26, 27, 28, 29, 30, 31, 32, 33, 34, 35, 36, 37, 38, 39, 40, 41, 42] (by decide +kernel) (by decide +kernel)
set_option maxRecDepth 20000 in
theorem gX7_adds_X7_isPlace : GoodIn wsX7_adds (wsV RX7 72 RX7 yX7_isPlace wsX7_isPlace) := goodIn_app (goodIn_of _ (by decide +kernel)) ggX7_adds_X7_isPlace
set_option maxRecDepth 20000 in
theorem ggX7_adds_X7_throwsIf : GoodIn wsX7_adds wsX7_throwsIf := goodIn_r _ [18, 19, 20, 21, 22, 23, 24, 25, 26, 27, 28, 29, 30, 31, 32, 33, 34, 35, 36, 37, 38, 39, 40, 41, 42] (by decide +kernel) (by decide +kernel)
set_option maxRecDepth 20000 in
theorem gX7_adds_X7_throwsIf : GoodIn wsX7_adds (wsV RX7 75 RX7 yX7_throwsIf wsX7_throwsIf) := goodIn_app (goodIn_of _ (by decide +kernel)) ggX7_adds_X7_throwsIf
theorem dX7_adds_0 : decode cX7_adds 0 = .ok (.aload_n 0, 1) := by decide +kernel
theorem dX7_adds_1 : decode cX7_adds 1 = .ok (.iconst 1, 1) := by decide +kernel
theorem dX7_adds_2 : decode cX7_adds 2 = .ok (.aload_n 0, 1) := by decide +kernel
theorem dX7_adds_3 : decode cX7_adds 3 = .ok (.iload_n 1, 1) := by decide +kernel
theorem dX7_adds_4 : decode cX7_adds 4 = .ok (.invokevirtual 68, 3) := by decide +kernel
theorem dX7_adds_7 : decode cX7_adds 7 = .ok (.ifCond .eq 11, 3) := by decide +kernel
theorem dX7_adds_10 : decode cX7_adds 10 = .ok (.aload_n 0, 1) := by decide +kernel
theorem dX7_adds_11 : decode cX7_adds 11 = .ok (.iload_n 2, 1) := by decide +kernel
theorem dX7_adds_12 : decode cX7_adds 12 = .ok (.invokevirtual 72, 3) := by decide +kernel
theorem dX7_adds_15 : decode cX7_adds 15 = .ok (.ifCond .ne 7, 3) := by decide +kernel
theorem dX7_adds_18 : decode cX7_adds 18 = .ok (.iconst 1, 1) := by decide +kernel
theorem dX7_adds_19 : decode cX7_adds 19 = .ok (.goto 4, 3) := by decide +kernel
theorem dX7_adds_22 : decode cX7_adds 22 = .ok (.iconst 0, 1) := by decide +kernel
theorem dX7_adds_23 : decode cX7_adds 23 = .ok (.invokevirtual 75, 3) := by decide +kernel
theorem dX7_adds_26 : decode cX7_adds 26 = .ok (.ifCond .ne 43, 3) := by decide +kernel
theorem dX7_adds_29 : decode cX7_adds 29 = .ok (.aload_n 0, 1) := by decide +kernel
theorem dX7_adds_30 : decode cX7_adds 30 = .ok (.iconst 2, 1) := by decide +kernel
theorem dX7_adds_31 : decode cX7_adds 31 = .ok (.iload_n 3, 1) := by decide +kernel
theorem dX7_adds_32 : decode cX7_adds 32 = .ok (.ifCond .lt 11, 3) := by decide +kernel
theorem dX7_adds_35 : decode cX7_adds 35 = .ok (.iload_n 3, 1) := by decide +kernel
theorem dX7_adds_36 : decode cX7_adds 36 = .ok (.aload_n 0, 1) := by decide +kernel
theorem dX7_adds_37 : decode cX7_adds 37 = .ok (.getfield 55, 3) := by decide +kernel
theorem dX7_adds_40 : decode cX7_adds 40 = .ok (.if_icmp .lt 7, 3) := by decide +kernel
theorem dX7_adds_43 : decode cX7_adds 43 = .ok (.iconst 1, 1) := by decide +kernel
theorem dX7_adds_44 : decode cX7_adds 44 = .ok (.goto 4, 3) := by decide +kernel
theorem dX7_adds_47 : decode cX7_adds 47 = .ok (.iconst 0, 1) := by decide +kernel
theorem dX7_adds_48 : decode cX7_adds 48 = .ok (.invokevirtual 75, 3) := by decide +kernel
theorem dX7_adds_51 : decode cX7_adds 51 = .ok (.ifCond .ne 18, 3) := by decide +kernel
theorem dX7_adds_54 : decode cX7_adds 54 = .ok (.aload_n 0, 1) := by decide +kernel
theorem dX7_adds_55 : decode cX7_adds 55 = .ok (.getfield 13, 3) := by decide +kernel
theorem dX7_adds_58 : decode cX7_adds 58 = .ok (.bipush 8, 2) := by decide +kernel
theorem dX7_adds_60 : decode cX7_adds 60 = .ok (.iload_n 1, 1) := by decide +kernel
theorem dX7_adds_61 : decode cX7_adds 61 = .ok (.imul, 1) := by decide +kernel
theorem dX7_adds_62 : decode cX7_adds 62 = .ok (.iload_n 2, 1) := by decide +kernel
theorem dX7_adds_63 : decode cX7_adds 63 = .ok (.iadd, 1) := by decide +kernel
theorem dX7_adds_64 : decode cX7_adds 64 = .ok (.iaload, 1) := by decide +kernel
theorem dX7_adds_65 : decode cX7_adds 65 = .ok (.iload_n 3, 1) := by decide +kernel
theorem dX7_adds_66 : decode cX7_adds 66 = .ok (.if_icmp .ne 5, 3) := by decide +kernel
theorem dX7_adds_69 : decode cX7_adds 69 = .ok (.iconst 0, 1) := by decide +kernel
theorem dX7_adds_70 : decode cX7_adds 70 = .ok (.ireturn, 1) := by decide +kernel
theorem dX7_adds_71 : decode cX7_adds 71 = .ok (.aload_n 0, 1) := by decide +kernel
theorem dX7_adds_72 : decode cX7_adds 72 = .ok (.getfield 13, 3) := by decide +kernel
theorem dX7_adds_75 : decode cX7_adds 75 = .ok (.bipush 8, 2) := by decide +kernel
theorem dX7_adds_77 : decode cX7_adds 77 = .ok (.iload_n 1, 1) := by decide +kernel
theorem dX7_adds_78 : decode cX7_adds 78 = .ok (.imul, 1) := by decide +kernel
theorem dX7_adds_79 : decode cX7_adds 79 = .ok (.iload_n 2, 1) := by decide +kernel
theorem dX7_adds_80 : decode cX7_adds 80 = .ok (.iadd, 1) := by decide +kernel
theorem dX7_adds_81 : decode cX7_adds 81 = .ok (.iload_n 3, 1) := by decide +kernel
theorem dX7_adds_82 : decode cX7_adds 82 = .ok (.iastore, 1) := by decide +kernel
theorem dX7_adds_83 : decode cX7_adds 83 = .ok (.aload_n 0, 1) := by decide +kernel
theorem dX7_adds_84 : decode cX7_adds 84 = .ok (.iconst 0, 1) := by decide +kernel
theorem dX7_adds_85 : decode cX7_adds 85 = .ok (.putfield 64, 3) := by decide +kernel
theorem dX7_adds_88 : decode cX7_adds 88 = .ok (.iconst 1, 1) := by decide +kernel
theorem dX7_adds_89 : decode cX7_adds 89 = .ok (.ireturn, 1) := by decide +kernel
theorem dX7_orderOf_0 : decode cX7_orderOf 0 = .ok (.iconst 0, 1) := by decide +kernel
theorem dX7_orderOf_1 : decode cX7_orderOf 1 = .ok (.istore_n 2, 1) := by decide +kernel
theorem dX7_orderOf_2 : decode cX7_orderOf 2 = .ok (.iconst 0, 1) := by decide +kernel
theorem dX7_orderOf_3 : decode cX7_orderOf 3 = .ok (.istore_n 3, 1) := by decide +kernel
theorem dX7_orderOf_4 : decode cX7_orderOf 4 = .ok (.iload_n 3, 1) := by decide +kernel
theorem dX7_orderOf_5 : decode cX7_orderOf 5 = .ok (.ifCond .ne 109, 3) := by decide +kernel
theorem dX7_orderOf_8 : decode cX7_orderOf 8 = .ok (.iinc 2 1, 3) := by decide +kernel
theorem dX7_orderOf_11 : decode cX7_orderOf 11 = .ok (.iconst 1, 1) := by decide +kernel
theorem dX7_orderOf_12 : decode cX7_orderOf 12 = .ok (.istore_n 3, 1) := by decide +kernel
theorem dX7_orderOf_13 : decode cX7_orderOf 13 = .ok (.iconst 0, 1) := by decide +kernel
theorem dX7_orderOf_14 : decode cX7_orderOf 14 = .ok (.istore 4, 2) := by decide +kernel
theorem dX7_orderOf_16 : decode cX7_orderOf 16 = .ok (.iload 4, 2) := by decide +kernel
theorem dX7_orderOf_18 : decode cX7_orderOf 18 = .ok (.aload_n 0, 1) := by decide +kernel
theorem dX7_orderOf_19 : decode cX7_orderOf 19 = .ok (.getfield 51, 3) := by decide +kernel
theorem dX7_orderOf_22 : decode cX7_orderOf 22 = .ok (.if_icmp .ge 89, 3) := by decide +kernel
theorem dX7_orderOf_25 : decode cX7_orderOf 25 = .ok (.iload_n 3, 1) := by decide +kernel
theorem dX7_orderOf_26 : decode cX7_orderOf 26 = .ok (.ifCond .eq 85, 3) := by decide +kernel
theorem dX7_orderOf_29 : decode cX7_orderOf 29 = .ok (.iload 4, 2) := by decide +kernel
theorem dX7_orderOf_31 : decode cX7_orderOf 31 = .ok (.istore 5, 2) := by decide +kernel
theorem dX7_orderOf_33 : decode cX7_orderOf 33 = .ok (.iconst 0, 1) := by decide +kernel
theorem dX7_orderOf_34 : decode cX7_orderOf 34 = .ok (.istore 6, 2) := by decide +kernel
theorem dX7_orderOf_36 : decode cX7_orderOf 36 = .ok (.iconst 0, 1) := by decide +kernel
theorem dX7_orderOf_37 : decode cX7_orderOf 37 = .ok (.istore 7, 2) := by decide +kernel
theorem dX7_orderOf_39 : decode cX7_orderOf 39 = .ok (.iload 7, 2) := by decide +kernel
theorem dX7_orderOf_41 : decode cX7_orderOf 41 = .ok (.iload_n 2, 1) := by decide +kernel
theorem dX7_orderOf_42 : decode cX7_orderOf 42 = .ok (.if_icmp .ge 40, 3) := by decide +kernel
theorem dX7_orderOf_45 : decode cX7_orderOf 45 = .ok (.iload 6, 2) := by decide +kernel
theorem dX7_orderOf_47 : decode cX7_orderOf 47 = .ok (.aload_n 0, 1) := by decide +kernel
theorem dX7_orderOf_48 : decode cX7_orderOf 48 = .ok (.getfield 13, 3) := by decide +kernel
theorem dX7_orderOf_51 : decode cX7_orderOf 51 = .ok (.bipush 8, 2) := by decide +kernel
theorem dX7_orderOf_53 : decode cX7_orderOf 53 = .ok (.iload_n 1, 1) := by decide +kernel
theorem dX7_orderOf_54 : decode cX7_orderOf 54 = .ok (.imul, 1) := by decide +kernel
theorem dX7_orderOf_55 : decode cX7_orderOf 55 = .ok (.iload 5, 2) := by decide +kernel
theorem dX7_orderOf_57 : decode cX7_orderOf 57 = .ok (.iadd, 1) := by decide +kernel
theorem dX7_orderOf_58 : decode cX7_orderOf 58 = .ok (.iaload, 1) := by decide +kernel
theorem dX7_orderOf_59 : decode cX7_orderOf 59 = .ok (.iadd, 1) := by decide +kernel
theorem dX7_orderOf_60 : decode cX7_orderOf 60 = .ok (.istore 6, 2) := by decide +kernel
theorem dX7_orderOf_62 : decode cX7_orderOf 62 = .ok (.aload_n 0, 1) := by decide +kernel
theorem dX7_orderOf_63 : decode cX7_orderOf 63 = .ok (.getfield 7, 3) := by decide +kernel
theorem dX7_orderOf_66 : decode cX7_orderOf 66 = .ok (.bipush 8, 2) := by decide +kernel
theorem dX7_orderOf_68 : decode cX7_orderOf 68 = .ok (.iload_n 1, 1) := by decide +kernel
theorem dX7_orderOf_69 : decode cX7_orderOf 69 = .ok (.imul, 1) := by decide +kernel
theorem dX7_orderOf_70 : decode cX7_orderOf 70 = .ok (.iload 5, 2) := by decide +kernel
theorem dX7_orderOf_72 : decode cX7_orderOf 72 = .ok (.iadd, 1) := by decide +kernel
theorem dX7_orderOf_73 : decode cX7_orderOf 73 = .ok (.iaload, 1) := by decide +kernel
theorem dX7_orderOf_74 : decode cX7_orderOf 74 = .ok (.istore 5, 2) := by decide +kernel
theorem dX7_orderOf_76 : decode cX7_orderOf 76 = .ok (.iinc 7 1, 3) := by decide +kernel
theorem dX7_orderOf_79 : decode cX7_orderOf 79 = .ok (.goto (-40), 3) := by decide +kernel
theorem dX7_orderOf_82 : decode cX7_orderOf 82 = .ok (.iload 5, 2) := by decide +kernel
theorem dX7_orderOf_84 : decode cX7_orderOf 84 = .ok (.iload 4, 2) := by decide +kernel
theorem dX7_orderOf_86 : decode cX7_orderOf 86 = .ok (.if_icmp .ne 17, 3) := by decide +kernel
theorem dX7_orderOf_89 : decode cX7_orderOf 89 = .ok (.iload 6, 2) := by decide +kernel
theorem dX7_orderOf_91 : decode cX7_orderOf 91 = .ok (.aload_n 0, 1) := by decide +kernel
theorem dX7_orderOf_92 : decode cX7_orderOf 92 = .ok (.getfield 55, 3) := by decide +kernel
theorem dX7_orderOf_95 : decode cX7_orderOf 95 = .ok (.irem, 1) := by decide +kernel
theorem dX7_orderOf_96 : decode cX7_orderOf 96 = .ok (.ifCond .ne 7, 3) := by decide +kernel
theorem dX7_orderOf_99 : decode cX7_orderOf 99 = .ok (.iconst 1, 1) := by decide +kernel
theorem dX7_orderOf_100 : decode cX7_orderOf 100 = .ok (.goto 4, 3) := by decide +kernel
theorem dX7_orderOf_103 : decode cX7_orderOf 103 = .ok (.iconst 0, 1) := by decide +kernel
theorem dX7_orderOf_104 : decode cX7_orderOf 104 = .ok (.istore_n 3, 1) := by decide +kernel
theorem dX7_orderOf_105 : decode cX7_orderOf 105 = .ok (.iinc 4 1, 3) := by decide +kernel
theorem dX7_orderOf_108 : decode cX7_orderOf 108 = .ok (.goto (-92), 3) := by decide +kernel
theorem dX7_orderOf_111 : decode cX7_orderOf 111 = .ok (.goto (-107), 3) := by decide +kernel
theorem dX7_orderOf_114 : decode cX7_orderOf 114 = .ok (.iload_n 2, 1) := by decide +kernel
theorem dX7_orderOf_115 : decode cX7_orderOf 115 = .ok (.ireturn, 1) := by decide +kernel
set_option maxRecDepth 20000 in
theorem ggX7_order_X7_isMove : GoodIn wsX7_order wsX7_isMove := goodIn_r _ [5, 6, 20, 21, 22, 23, 24, 25, 26, 27, 28, 29, 30, 31, 32, 33, 34, 35, 36, 37, 38, 39, 40, 41, 42] (by decide +kernel) (by decide +kernel)
set_option maxRecDepth 20000 in
theorem gX7_order_X7_isMove : GoodIn wsX7_order (wsV RX7 68 RX7 yX7_isMove wsX7_isMove) := goodIn_app (goodIn_of _ (by decide +kernel)) ggX7_order_X7_isMove
set_option maxRecDepth 20000 in
theorem ggX7_order_X7_throwsIf : GoodIn wsX7_order wsX7_throwsIf := goodIn_r _ [10, 11, 20, 21, 22, 23, 24, 25, 26, 27, 28, 29, 30, 31, 32, 33, 34, 35, 36, 37, 38, 39, 40, 41, 42] (by decide +kernel) (by decide +kernel)
set_option maxRecDepth 20000 in
theorem gX7_order_X7_throwsIf : GoodIn wsX7_order (wsV RX7 75 RX7 yX7_throwsIf wsX7_throwsIf) := goodIn_app (goodIn_of _ (by decide +kernel)) ggX7_order_X7_throwsIf
set_option maxRecDepth 20000 in
theorem ggX7_order_X7_orderOf : GoodIn wsX7_order wsX7_orderOf := goodIn_ca (goodIn_r _ [15, 16, 17, 18, 19, 20, 21, 22, 23, 24, 25, 26, 27, 28, 29, 30, 31, 32, 33, 34, 35, 36, 37, 38, 39, 40, 41, 42] (by decide +kernel) (by decide +kernel)) (goodIn_sub (fun _ h => List.mem_cons_of_mem _ (List.mem_append_right _ h)) (by decide +kernel))
set_option maxRecDepth 20000 in
theorem gX7_order_X7_orderOf : GoodIn wsX7_order (wsV RX7 79 RX7 yX7_orderOf wsX7_orderOf) := goodIn_app (goodIn_of _ (by decide +kernel)) ggX7_order_X7_orderOf
theorem dX7_order_0 : decode cX7_order 0 = .ok (.aload_n 0, 1) := by decide +kernel
theorem dX7_order_1 : decode cX7_order 1 = .ok (.iconst 1, 1) := by decide +kernel
theorem dX7_order_2 : decode cX7_order 2 = .ok (.aload_n 0, 1) := by decide +kernel
theorem dX7_order_3 : decode cX7_order 3 = .ok (.iload_n 1, 1) := by decide +kernel
theorem dX7_order_4 : decode cX7_order 4 = .ok (.invokevirtual 68, 3) := by decide +kernel
theorem dX7_order_7 : decode cX7_order 7 = .ok (.ifCond .ne 7, 3) := by decide +kernel
theorem dX7_order_10 : decode cX7_order 10 = .ok (.iconst 1, 1) := by decide +kernel
theorem dX7_order_11 : decode cX7_order 11 = .ok (.goto 4, 3) := by decide +kernel
theorem dX7_order_14 : decode cX7_order 14 = .ok (.iconst 0, 1) := by decide +kernel
theorem dX7_order_15 : decode cX7_order 15 = .ok (.invokevirtual 75, 3) := by decide +kernel
theorem dX7_order_18 : decode cX7_order 18 = .ok (.ifCond .eq 7, 3) := by decide +kernel
theorem dX7_order_21 : decode cX7_order 21 = .ok (.iconst 0, 1) := by decide +kernel
theorem dX7_order_22 : decode cX7_order 22 = .ok (.goto 8, 3) := by decide +kernel
theorem dX7_order_25 : decode cX7_order 25 = .ok (.aload_n 0, 1) := by decide +kernel
theorem dX7_order_26 : decode cX7_order 26 = .ok (.iload_n 1, 1) := by decide +kernel
theorem dX7_order_27 : decode cX7_order 27 = .ok (.invokevirtual 79, 3) := by decide +kernel
theorem dX7_order_30 : decode cX7_order 30 = .ok (.ireturn, 1) := by decide +kernel
set_option maxRecDepth 20000 in
theorem ggX7_choose_X7_isPlace : GoodIn wsX7_choose wsX7_isPlace := goodIn_r _ [11, 3, 32, 33, 34, 35, 36, 37, 38, 39, 40, 41, 42, 43, 44, 45, 46, 47, 48, 49, 50, 51, 52, 53, 54] (by decide +kernel) (by decide +kernel)
set_option maxRecDepth 20000 in
theorem gX7_choose_X7_isPlace : GoodIn wsX7_choose (wsV RX7 72 RX7 yX7_isPlace wsX7_isPlace) := goodIn_app (goodIn_of _ (by decide +kernel)) ggX7_choose_X7_isPlace
set_option maxRecDepth 20000 in
theorem ggX7_choose_X7_throwsIf : GoodIn wsX7_choose wsX7_throwsIf := goodIn_r _ [15, 16, 32, 33, 34, 35, 36, 37, 38, 39, 40, 41, 42, 43, 44, 45, 46, 47, 48, 49, 50, 51, 52, 53, 54] (by decide +kernel) (by decide +kernel)
set_option maxRecDepth 20000 in
theorem gX7_choose_X7_throwsIf : GoodIn wsX7_choose (wsV RX7 75 RX7 yX7_throwsIf wsX7_throwsIf) := goodIn_app (goodIn_of _ (by decide +kernel)) ggX7_choose_X7_throwsIf
set_option maxRecDepth 20000 in
theorem ggX7_choose_X7_goal : GoodIn wsX7_choose wsX7_goal := goodIn_ca (goodIn_r _ [20, 2, 21, 4, 22, 23, 24, 25, 10, 26, 3, 27, 28, 29, 30, 31, 32, 33, 34, 35, 36, 37, 38, 39, 40, 41, 42, 43, 44, 45, 46, 47, 48, 49, 50, 51, 52, 53, 54] (by decide +kernel) (by decide +kernel)) (goodIn_sub (fun _ h => List.mem_cons_of_mem _ (List.mem_append_right _ h)) (by decide +kernel))
set_option maxRecDepth 20000 in
theorem gX7_choose_X7_goal : GoodIn wsX7_choose (wsV RX7 86 RX7 yX7_goal wsX7_goal) := goodIn_app (goodIn_of _ (by decide +kernel)) ggX7_choose_X7_goal
theorem dX7_choose_0 : decode cX7_choose 0 = .ok (.aload_n 0, 1) := by decide +kernel
theorem dX7_choose_1 : decode cX7_choose 1 = .ok (.iconst 1, 1) := by decide +kernel
theorem dX7_choose_2 : decode cX7_choose 2 = .ok (.aload_n 0, 1) := by decide +kernel
theorem dX7_choose_3 : decode cX7_choose 3 = .ok (.iload_n 1, 1) := by decide +kernel
theorem dX7_choose_4 : decode cX7_choose 4 = .ok (.invokevirtual 72, 3) := by decide +kernel
theorem dX7_choose_7 : decode cX7_choose 7 = .ok (.ifCond .ne 7, 3) := by decide +kernel
theorem dX7_choose_10 : decode cX7_choose 10 = .ok (.iconst 1, 1) := by decide +kernel
theorem dX7_choose_11 : decode cX7_choose 11 = .ok (.goto 4, 3) := by decide +kernel
theorem dX7_choose_14 : decode cX7_choose 14 = .ok (.iconst 0, 1) := by decide +kernel
theorem dX7_choose_15 : decode cX7_choose 15 = .ok (.invokevirtual 75, 3) := by decide +kernel
theorem dX7_choose_18 : decode cX7_choose 18 = .ok (.ifCond .ne 25, 3) := by decide +kernel
theorem dX7_choose_21 : decode cX7_choose 21 = .ok (.aload_n 0, 1) := by decide +kernel
theorem dX7_choose_22 : decode cX7_choose 22 = .ok (.getfield 16, 3) := by decide +kernel
theorem dX7_choose_25 : decode cX7_choose 25 = .ok (.iload_n 1, 1) := by decide +kernel
theorem dX7_choose_26 : decode cX7_choose 26 = .ok (.baload, 1) := by decide +kernel
theorem dX7_choose_27 : decode cX7_choose 27 = .ok (.iload_n 2, 1) := by decide +kernel
theorem dX7_choose_28 : decode cX7_choose 28 = .ok (.if_icmp .eq 15, 3) := by decide +kernel
theorem dX7_choose_31 : decode cX7_choose 31 = .ok (.iload_n 2, 1) := by decide +kernel
theorem dX7_choose_32 : decode cX7_choose 32 = .ok (.ifCond .eq 13, 3) := by decide +kernel
theorem dX7_choose_35 : decode cX7_choose 35 = .ok (.aload_n 0, 1) := by decide +kernel
theorem dX7_choose_36 : decode cX7_choose 36 = .ok (.getfield 83, 3) := by decide +kernel
theorem dX7_choose_39 : decode cX7_choose 39 = .ok (.iconst 4, 1) := by decide +kernel
theorem dX7_choose_40 : decode cX7_choose 40 = .ok (.if_icmp .ne 5, 3) := by decide +kernel
theorem dX7_choose_43 : decode cX7_choose 43 = .ok (.iconst 0, 1) := by decide +kernel
theorem dX7_choose_44 : decode cX7_choose 44 = .ok (.ireturn, 1) := by decide +kernel
theorem dX7_choose_45 : decode cX7_choose 45 = .ok (.aload_n 0, 1) := by decide +kernel
theorem dX7_choose_46 : decode cX7_choose 46 = .ok (.getfield 16, 3) := by decide +kernel
theorem dX7_choose_49 : decode cX7_choose 49 = .ok (.iload_n 1, 1) := by decide +kernel
theorem dX7_choose_50 : decode cX7_choose 50 = .ok (.iload_n 2, 1) := by decide +kernel
theorem dX7_choose_51 : decode cX7_choose 51 = .ok (.bastore, 1) := by decide +kernel
theorem dX7_choose_52 : decode cX7_choose 52 = .ok (.aload_n 0, 1) := by decide +kernel
theorem dX7_choose_53 : decode cX7_choose 53 = .ok (.iconst 0, 1) := by decide +kernel
theorem dX7_choose_54 : decode cX7_choose 54 = .ok (.putfield 83, 3) := by decide +kernel
theorem dX7_choose_57 : decode cX7_choose 57 = .ok (.iconst 0, 1) := by decide +kernel
theorem dX7_choose_58 : decode cX7_choose 58 = .ok (.istore_n 3, 1) := by decide +kernel
theorem dX7_choose_59 : decode cX7_choose 59 = .ok (.iload_n 3, 1) := by decide +kernel
theorem dX7_choose_60 : decode cX7_choose 60 = .ok (.aload_n 0, 1) := by decide +kernel
theorem dX7_choose_61 : decode cX7_choose 61 = .ok (.getfield 51, 3) := by decide +kernel
theorem dX7_choose_64 : decode cX7_choose 64 = .ok (.if_icmp .ge 41, 3) := by decide +kernel
theorem dX7_choose_67 : decode cX7_choose 67 = .ok (.aload_n 0, 1) := by decide +kernel
theorem dX7_choose_68 : decode cX7_choose 68 = .ok (.getfield 16, 3) := by decide +kernel
theorem dX7_choose_71 : decode cX7_choose 71 = .ok (.iload_n 3, 1) := by decide +kernel
theorem dX7_choose_72 : decode cX7_choose 72 = .ok (.baload, 1) := by decide +kernel
theorem dX7_choose_73 : decode cX7_choose 73 = .ok (.ifCond .ne 6, 3) := by decide +kernel
theorem dX7_choose_76 : decode cX7_choose 76 = .ok (.goto 23, 3) := by decide +kernel
theorem dX7_choose_79 : decode cX7_choose 79 = .ok (.aload_n 0, 1) := by decide +kernel
theorem dX7_choose_80 : decode cX7_choose 80 = .ok (.getfield 20, 3) := by decide +kernel
theorem dX7_choose_83 : decode cX7_choose 83 = .ok (.aload_n 0, 1) := by decide +kernel
theorem dX7_choose_84 : decode cX7_choose 84 = .ok (.getfield 83, 3) := by decide +kernel
theorem dX7_choose_87 : decode cX7_choose 87 = .ok (.iload_n 3, 1) := by decide +kernel
theorem dX7_choose_88 : decode cX7_choose 88 = .ok (.iastore, 1) := by decide +kernel
theorem dX7_choose_89 : decode cX7_choose 89 = .ok (.aload_n 0, 1) := by decide +kernel
theorem dX7_choose_90 : decode cX7_choose 90 = .ok (.dup, 1) := by decide +kernel
theorem dX7_choose_91 : decode cX7_choose 91 = .ok (.getfield 83, 3) := by decide +kernel
theorem dX7_choose_94 : decode cX7_choose 94 = .ok (.iconst 1, 1) := by decide +kernel
theorem dX7_choose_95 : decode cX7_choose 95 = .ok (.iadd, 1) := by decide +kernel
theorem dX7_choose_96 : decode cX7_choose 96 = .ok (.putfield 83, 3) := by decide +kernel
theorem dX7_choose_99 : decode cX7_choose 99 = .ok (.iinc 3 1, 3) := by decide +kernel
theorem dX7_choose_102 : decode cX7_choose 102 = .ok (.goto (-43), 3) := by decide +kernel
theorem dX7_choose_105 : decode cX7_choose 105 = .ok (.aload_n 0, 1) := by decide +kernel
theorem dX7_choose_106 : decode cX7_choose 106 = .ok (.iconst 0, 1) := by decide +kernel
theorem dX7_choose_107 : decode cX7_choose 107 = .ok (.putfield 64, 3) := by decide +kernel
theorem dX7_choose_110 : decode cX7_choose 110 = .ok (.aload_n 0, 1) := by decide +kernel
theorem dX7_choose_111 : decode cX7_choose 111 = .ok (.aload_n 0, 1) := by decide +kernel
theorem dX7_choose_112 : decode cX7_choose 112 = .ok (.invokevirtual 86, 3) := by decide +kernel
theorem dX7_choose_115 : decode cX7_choose 115 = .ok (.putfield 90, 3) := by decide +kernel
theorem dX7_choose_118 : decode cX7_choose 118 = .ok (.iconst 1, 1) := by decide +kernel
theorem dX7_choose_119 : decode cX7_choose 119 = .ok (.ireturn, 1) := by decide +kernel
theorem dX7_countStates_0 : decode cX7_countStates 0 = .ok (.iconst 1, 1) := by decide +kernel
theorem dX7_countStates_1 : decode cX7_countStates 1 = .ok (.istore_n 1, 1) := by decide +kernel
theorem dX7_countStates_2 : decode cX7_countStates 2 = .ok (.iconst 0, 1) := by decide +kernel
theorem dX7_countStates_3 : decode cX7_countStates 3 = .ok (.istore_n 2, 1) := by decide +kernel
theorem dX7_countStates_4 : decode cX7_countStates 4 = .ok (.iload_n 2, 1) := by decide +kernel
theorem dX7_countStates_5 : decode cX7_countStates 5 = .ok (.aload_n 0, 1) := by decide +kernel
theorem dX7_countStates_6 : decode cX7_countStates 6 = .ok (.getfield 83, 3) := by decide +kernel
theorem dX7_countStates_9 : decode cX7_countStates 9 = .ok (.if_icmp .ge 23, 3) := by decide +kernel
theorem dX7_countStates_12 : decode cX7_countStates 12 = .ok (.iload_n 1, 1) := by decide +kernel
theorem dX7_countStates_13 : decode cX7_countStates 13 = .ok (.aload_n 0, 1) := by decide +kernel
theorem dX7_countStates_14 : decode cX7_countStates 14 = .ok (.getfield 51, 3) := by decide +kernel
theorem dX7_countStates_17 : decode cX7_countStates 17 = .ok (.iload_n 2, 1) := by decide +kernel
theorem dX7_countStates_18 : decode cX7_countStates 18 = .ok (.isub, 1) := by decide +kernel
theorem dX7_countStates_19 : decode cX7_countStates 19 = .ok (.aload_n 0, 1) := by decide +kernel
theorem dX7_countStates_20 : decode cX7_countStates 20 = .ok (.getfield 55, 3) := by decide +kernel
theorem dX7_countStates_23 : decode cX7_countStates 23 = .ok (.imul, 1) := by decide +kernel
theorem dX7_countStates_24 : decode cX7_countStates 24 = .ok (.imul, 1) := by decide +kernel
theorem dX7_countStates_25 : decode cX7_countStates 25 = .ok (.istore_n 1, 1) := by decide +kernel
theorem dX7_countStates_26 : decode cX7_countStates 26 = .ok (.iinc 2 1, 3) := by decide +kernel
theorem dX7_countStates_29 : decode cX7_countStates 29 = .ok (.goto (-25), 3) := by decide +kernel
theorem dX7_countStates_32 : decode cX7_countStates 32 = .ok (.iload_n 1, 1) := by decide +kernel
theorem dX7_countStates_33 : decode cX7_countStates 33 = .ok (.ireturn, 1) := by decide +kernel
set_option maxRecDepth 20000 in
theorem ggX7_size_X7_countStates : GoodIn wsX7_size wsX7_countStates := goodIn_r _ [6, 7, 8, 9, 10, 11, 12, 13, 14, 15, 16, 17, 18, 19, 20, 21, 22, 23, 24, 25, 26, 27, 28, 29, 30, 31, 32] (by decide +kernel) (by decide +kernel)
set_option maxRecDepth 20000 in
theorem gX7_size_X7_countStates : GoodIn wsX7_size (wsV RX7 93 RX7 yX7_countStates wsX7_countStates) := goodIn_app (goodIn_of _ (by decide +kernel)) ggX7_size_X7_countStates
theorem dX7_size_0 : decode cX7_size 0 = .ok (.aload_n 0, 1) := by decide +kernel
theorem dX7_size_1 : decode cX7_size 1 = .ok (.iconst 0, 1) := by decide +kernel
theorem dX7_size_2 : decode cX7_size 2 = .ok (.putfield 58, 3) := by decide +kernel
theorem dX7_size_5 : decode cX7_size 5 = .ok (.aload_n 0, 1) := by decide +kernel
theorem dX7_size_6 : decode cX7_size 6 = .ok (.invokevirtual 93, 3) := by decide +kernel
theorem dX7_size_9 : decode cX7_size 9 = .ok (.ireturn, 1) := by decide +kernel
theorem dX7_isFree_0 : decode cX7_isFree 0 = .ok (.iconst 0, 1) := by decide +kernel
theorem dX7_isFree_1 : decode cX7_isFree 1 = .ok (.istore_n 3, 1) := by decide +kernel
theorem dX7_isFree_2 : decode cX7_isFree 2 = .ok (.iload_n 3, 1) := by decide +kernel
theorem dX7_isFree_3 : decode cX7_isFree 3 = .ok (.iload_n 2, 1) := by decide +kernel
theorem dX7_isFree_4 : decode cX7_isFree 4 = .ok (.if_icmp .ge 21, 3) := by decide +kernel
theorem dX7_isFree_7 : decode cX7_isFree 7 = .ok (.aload_n 0, 1) := by decide +kernel
theorem dX7_isFree_8 : decode cX7_isFree 8 = .ok (.getfield 23, 3) := by decide +kernel
theorem dX7_isFree_11 : decode cX7_isFree 11 = .ok (.iload_n 3, 1) := by decide +kernel
theorem dX7_isFree_12 : decode cX7_isFree 12 = .ok (.iaload, 1) := by decide +kernel
theorem dX7_isFree_13 : decode cX7_isFree 13 = .ok (.iload_n 1, 1) := by decide +kernel
theorem dX7_isFree_14 : decode cX7_isFree 14 = .ok (.if_icmp .ne 5, 3) := by decide +kernel
theorem dX7_isFree_17 : decode cX7_isFree 17 = .ok (.iconst 0, 1) := by decide +kernel
theorem dX7_isFree_18 : decode cX7_isFree 18 = .ok (.ireturn, 1) := by decide +kernel
theorem dX7_isFree_19 : decode cX7_isFree 19 = .ok (.iinc 3 1, 3) := by decide +kernel
theorem dX7_isFree_22 : decode cX7_isFree 22 = .ok (.goto (-20), 3) := by decide +kernel
theorem dX7_isFree_25 : decode cX7_isFree 25 = .ok (.iconst 1, 1) := by decide +kernel
theorem dX7_isFree_26 : decode cX7_isFree 26 = .ok (.ireturn, 1) := by decide +kernel
set_option maxRecDepth 20000 in
theorem ggX7_numberOf_X7_isFree : GoodIn wsX7_numberOf wsX7_isFree := goodIn_ca (goodIn_r _ [10, 2, 11, 12, 13, 14, 15, 16, 17, 18, 19, 20, 21, 22, 23, 24, 25, 26, 27, 28, 29, 30, 31, 32, 33] (by decide +kernel) (by decide +kernel)) (goodIn_sub (fun _ h => List.mem_cons_of_mem _ (List.mem_append_right _ h)) (by decide +kernel))
set_option maxRecDepth 20000 in
theorem gX7_numberOf_X7_isFree : GoodIn wsX7_numberOf (wsV RX7 96 RX7 yX7_isFree wsX7_isFree) := goodIn_app (goodIn_of _ (by decide +kernel)) ggX7_numberOf_X7_isFree
theorem dX7_numberOf_0 : decode cX7_numberOf 0 = .ok (.iconst 0, 1) := by decide +kernel
theorem dX7_numberOf_1 : decode cX7_numberOf 1 = .ok (.istore_n 1, 1) := by decide +kernel
theorem dX7_numberOf_2 : decode cX7_numberOf 2 = .ok (.iconst 0, 1) := by decide +kernel
theorem dX7_numberOf_3 : decode cX7_numberOf 3 = .ok (.istore_n 2, 1) := by decide +kernel
theorem dX7_numberOf_4 : decode cX7_numberOf 4 = .ok (.iload_n 2, 1) := by decide +kernel
theorem dX7_numberOf_5 : decode cX7_numberOf 5 = .ok (.aload_n 0, 1) := by decide +kernel
theorem dX7_numberOf_6 : decode cX7_numberOf 6 = .ok (.getfield 83, 3) := by decide +kernel
theorem dX7_numberOf_9 : decode cX7_numberOf 9 = .ok (.if_icmp .ge 60, 3) := by decide +kernel
theorem dX7_numberOf_12 : decode cX7_numberOf 12 = .ok (.iconst 0, 1) := by decide +kernel
theorem dX7_numberOf_13 : decode cX7_numberOf 13 = .ok (.istore_n 3, 1) := by decide +kernel
theorem dX7_numberOf_14 : decode cX7_numberOf 14 = .ok (.iconst 0, 1) := by decide +kernel
theorem dX7_numberOf_15 : decode cX7_numberOf 15 = .ok (.istore 4, 2) := by decide +kernel
theorem dX7_numberOf_17 : decode cX7_numberOf 17 = .ok (.iload 4, 2) := by decide +kernel
theorem dX7_numberOf_19 : decode cX7_numberOf 19 = .ok (.aload_n 0, 1) := by decide +kernel
theorem dX7_numberOf_20 : decode cX7_numberOf 20 = .ok (.getfield 23, 3) := by decide +kernel
theorem dX7_numberOf_23 : decode cX7_numberOf 23 = .ok (.iload_n 2, 1) := by decide +kernel
theorem dX7_numberOf_24 : decode cX7_numberOf 24 = .ok (.iaload, 1) := by decide +kernel
theorem dX7_numberOf_25 : decode cX7_numberOf 25 = .ok (.if_icmp .ge 27, 3) := by decide +kernel
theorem dX7_numberOf_28 : decode cX7_numberOf 28 = .ok (.iload_n 3, 1) := by decide +kernel
theorem dX7_numberOf_29 : decode cX7_numberOf 29 = .ok (.aload_n 0, 1) := by decide +kernel
theorem dX7_numberOf_30 : decode cX7_numberOf 30 = .ok (.iload 4, 2) := by decide +kernel
theorem dX7_numberOf_32 : decode cX7_numberOf 32 = .ok (.iload_n 2, 1) := by decide +kernel
theorem dX7_numberOf_33 : decode cX7_numberOf 33 = .ok (.invokevirtual 96, 3) := by decide +kernel
theorem dX7_numberOf_36 : decode cX7_numberOf 36 = .ok (.ifCond .eq 7, 3) := by decide +kernel
theorem dX7_numberOf_39 : decode cX7_numberOf 39 = .ok (.iconst 1, 1) := by decide +kernel
theorem dX7_numberOf_40 : decode cX7_numberOf 40 = .ok (.goto 4, 3) := by decide +kernel
theorem dX7_numberOf_43 : decode cX7_numberOf 43 = .ok (.iconst 0, 1) := by decide +kernel
theorem dX7_numberOf_44 : decode cX7_numberOf 44 = .ok (.iadd, 1) := by decide +kernel
theorem dX7_numberOf_45 : decode cX7_numberOf 45 = .ok (.istore_n 3, 1) := by decide +kernel
theorem dX7_numberOf_46 : decode cX7_numberOf 46 = .ok (.iinc 4 1, 3) := by decide +kernel
theorem dX7_numberOf_49 : decode cX7_numberOf 49 = .ok (.goto (-32), 3) := by decide +kernel
theorem dX7_numberOf_52 : decode cX7_numberOf 52 = .ok (.iload_n 1, 1) := by decide +kernel
theorem dX7_numberOf_53 : decode cX7_numberOf 53 = .ok (.aload_n 0, 1) := by decide +kernel
theorem dX7_numberOf_54 : decode cX7_numberOf 54 = .ok (.getfield 51, 3) := by decide +kernel
theorem dX7_numberOf_57 : decode cX7_numberOf 57 = .ok (.iload_n 2, 1) := by decide +kernel
theorem dX7_numberOf_58 : decode cX7_numberOf 58 = .ok (.isub, 1) := by decide +kernel
theorem dX7_numberOf_59 : decode cX7_numberOf 59 = .ok (.imul, 1) := by decide +kernel
theorem dX7_numberOf_60 : decode cX7_numberOf 60 = .ok (.iload_n 3, 1) := by decide +kernel
theorem dX7_numberOf_61 : decode cX7_numberOf 61 = .ok (.iadd, 1) := by decide +kernel
theorem dX7_numberOf_62 : decode cX7_numberOf 62 = .ok (.istore_n 1, 1) := by decide +kernel
theorem dX7_numberOf_63 : decode cX7_numberOf 63 = .ok (.iinc 2 1, 3) := by decide +kernel
theorem dX7_numberOf_66 : decode cX7_numberOf 66 = .ok (.goto (-62), 3) := by decide +kernel
theorem dX7_numberOf_69 : decode cX7_numberOf 69 = .ok (.iconst 0, 1) := by decide +kernel
theorem dX7_numberOf_70 : decode cX7_numberOf 70 = .ok (.istore_n 2, 1) := by decide +kernel
theorem dX7_numberOf_71 : decode cX7_numberOf 71 = .ok (.iload_n 2, 1) := by decide +kernel
theorem dX7_numberOf_72 : decode cX7_numberOf 72 = .ok (.aload_n 0, 1) := by decide +kernel
theorem dX7_numberOf_73 : decode cX7_numberOf 73 = .ok (.getfield 83, 3) := by decide +kernel
theorem dX7_numberOf_76 : decode cX7_numberOf 76 = .ok (.if_icmp .ge 23, 3) := by decide +kernel
theorem dX7_numberOf_79 : decode cX7_numberOf 79 = .ok (.iload_n 1, 1) := by decide +kernel
theorem dX7_numberOf_80 : decode cX7_numberOf 80 = .ok (.aload_n 0, 1) := by decide +kernel
theorem dX7_numberOf_81 : decode cX7_numberOf 81 = .ok (.getfield 55, 3) := by decide +kernel
theorem dX7_numberOf_84 : decode cX7_numberOf 84 = .ok (.imul, 1) := by decide +kernel
theorem dX7_numberOf_85 : decode cX7_numberOf 85 = .ok (.aload_n 0, 1) := by decide +kernel
theorem dX7_numberOf_86 : decode cX7_numberOf 86 = .ok (.getfield 26, 3) := by decide +kernel
theorem dX7_numberOf_89 : decode cX7_numberOf 89 = .ok (.iload_n 2, 1) := by decide +kernel
theorem dX7_numberOf_90 : decode cX7_numberOf 90 = .ok (.iaload, 1) := by decide +kernel
theorem dX7_numberOf_91 : decode cX7_numberOf 91 = .ok (.iadd, 1) := by decide +kernel
theorem dX7_numberOf_92 : decode cX7_numberOf 92 = .ok (.istore_n 1, 1) := by decide +kernel
theorem dX7_numberOf_93 : decode cX7_numberOf 93 = .ok (.iinc 2 1, 3) := by decide +kernel
theorem dX7_numberOf_96 : decode cX7_numberOf 96 = .ok (.goto (-25), 3) := by decide +kernel
theorem dX7_numberOf_99 : decode cX7_numberOf 99 = .ok (.iload_n 1, 1) := by decide +kernel
theorem dX7_numberOf_100 : decode cX7_numberOf 100 = .ok (.ireturn, 1) := by decide +kernel
set_option maxRecDepth 20000 in
theorem ggX7_take_X7_isFree : GoodIn wsX7_take wsX7_isFree := goodIn_ca (goodIn_r _ [10, 4, 11, 12, 13, 14, 15, 16, 17, 18, 19, 20, 21, 22, 23, 24, 25, 26, 27, 28, 29, 30, 31, 32, 33] (by decide +kernel) (by decide +kernel)) (goodIn_sub (fun _ h => List.mem_cons_of_mem _ (List.mem_append_right _ h)) (by decide +kernel))
set_option maxRecDepth 20000 in
theorem gX7_take_X7_isFree : GoodIn wsX7_take (wsV RX7 96 RX7 yX7_isFree wsX7_isFree) := goodIn_app (goodIn_of _ (by decide +kernel)) ggX7_take_X7_isFree
theorem dX7_take_0 : decode cX7_take 0 = .ok (.iload_n 1, 1) := by decide +kernel
theorem dX7_take_1 : decode cX7_take 1 = .ok (.istore_n 2, 1) := by decide +kernel
theorem dX7_take_2 : decode cX7_take 2 = .ok (.aload_n 0, 1) := by decide +kernel
theorem dX7_take_3 : decode cX7_take 3 = .ok (.getfield 83, 3) := by decide +kernel
theorem dX7_take_6 : decode cX7_take 6 = .ok (.iconst 1, 1) := by decide +kernel
theorem dX7_take_7 : decode cX7_take 7 = .ok (.isub, 1) := by decide +kernel
theorem dX7_take_8 : decode cX7_take 8 = .ok (.istore_n 3, 1) := by decide +kernel
theorem dX7_take_9 : decode cX7_take 9 = .ok (.iload_n 3, 1) := by decide +kernel
theorem dX7_take_10 : decode cX7_take 10 = .ok (.ifCond .lt 28, 3) := by decide +kernel
theorem dX7_take_13 : decode cX7_take 13 = .ok (.aload_n 0, 1) := by decide +kernel
theorem dX7_take_14 : decode cX7_take 14 = .ok (.getfield 26, 3) := by decide +kernel
theorem dX7_take_17 : decode cX7_take 17 = .ok (.iload_n 3, 1) := by decide +kernel
theorem dX7_take_18 : decode cX7_take 18 = .ok (.iload_n 2, 1) := by decide +kernel
theorem dX7_take_19 : decode cX7_take 19 = .ok (.aload_n 0, 1) := by decide +kernel
theorem dX7_take_20 : decode cX7_take 20 = .ok (.getfield 55, 3) := by decide +kernel
theorem dX7_take_23 : decode cX7_take 23 = .ok (.irem, 1) := by decide +kernel
theorem dX7_take_24 : decode cX7_take 24 = .ok (.iastore, 1) := by decide +kernel
theorem dX7_take_25 : decode cX7_take 25 = .ok (.iload_n 2, 1) := by decide +kernel
theorem dX7_take_26 : decode cX7_take 26 = .ok (.aload_n 0, 1) := by decide +kernel
theorem dX7_take_27 : decode cX7_take 27 = .ok (.getfield 55, 3) := by decide +kernel
theorem dX7_take_30 : decode cX7_take 30 = .ok (.idiv, 1) := by decide +kernel
theorem dX7_take_31 : decode cX7_take 31 = .ok (.istore_n 2, 1) := by decide +kernel
theorem dX7_take_32 : decode cX7_take 32 = .ok (.iinc 3 (-1), 3) := by decide +kernel
theorem dX7_take_35 : decode cX7_take 35 = .ok (.goto (-26), 3) := by decide +kernel
theorem dX7_take_38 : decode cX7_take 38 = .ok (.aload_n 0, 1) := by decide +kernel
theorem dX7_take_39 : decode cX7_take 39 = .ok (.getfield 83, 3) := by decide +kernel
theorem dX7_take_42 : decode cX7_take 42 = .ok (.iconst 1, 1) := by decide +kernel
theorem dX7_take_43 : decode cX7_take 43 = .ok (.isub, 1) := by decide +kernel
theorem dX7_take_44 : decode cX7_take 44 = .ok (.istore_n 3, 1) := by decide +kernel
theorem dX7_take_45 : decode cX7_take 45 = .ok (.iload_n 3, 1) := by decide +kernel
theorem dX7_take_46 : decode cX7_take 46 = .ok (.ifCond .lt 32, 3) := by decide +kernel
theorem dX7_take_49 : decode cX7_take 49 = .ok (.aload_n 0, 1) := by decide +kernel
theorem dX7_take_50 : decode cX7_take 50 = .ok (.getfield 23, 3) := by decide +kernel
theorem dX7_take_53 : decode cX7_take 53 = .ok (.iload_n 3, 1) := by decide +kernel
theorem dX7_take_54 : decode cX7_take 54 = .ok (.iload_n 2, 1) := by decide +kernel
theorem dX7_take_55 : decode cX7_take 55 = .ok (.aload_n 0, 1) := by decide +kernel
theorem dX7_take_56 : decode cX7_take 56 = .ok (.getfield 51, 3) := by decide +kernel
theorem dX7_take_59 : decode cX7_take 59 = .ok (.iload_n 3, 1) := by decide +kernel
theorem dX7_take_60 : decode cX7_take 60 = .ok (.isub, 1) := by decide +kernel
theorem dX7_take_61 : decode cX7_take 61 = .ok (.irem, 1) := by decide +kernel
theorem dX7_take_62 : decode cX7_take 62 = .ok (.iastore, 1) := by decide +kernel
theorem dX7_take_63 : decode cX7_take 63 = .ok (.iload_n 2, 1) := by decide +kernel
theorem dX7_take_64 : decode cX7_take 64 = .ok (.aload_n 0, 1) := by decide +kernel
theorem dX7_take_65 : decode cX7_take 65 = .ok (.getfield 51, 3) := by decide +kernel
theorem dX7_take_68 : decode cX7_take 68 = .ok (.iload_n 3, 1) := by decide +kernel
theorem dX7_take_69 : decode cX7_take 69 = .ok (.isub, 1) := by decide +kernel
theorem dX7_take_70 : decode cX7_take 70 = .ok (.idiv, 1) := by decide +kernel
theorem dX7_take_71 : decode cX7_take 71 = .ok (.istore_n 2, 1) := by decide +kernel
theorem dX7_take_72 : decode cX7_take 72 = .ok (.iinc 3 (-1), 3) := by decide +kernel
theorem dX7_take_75 : decode cX7_take 75 = .ok (.goto (-30), 3) := by decide +kernel
theorem dX7_take_78 : decode cX7_take 78 = .ok (.iconst 0, 1) := by decide +kernel
theorem dX7_take_79 : decode cX7_take 79 = .ok (.istore_n 3, 1) := by decide +kernel
theorem dX7_take_80 : decode cX7_take 80 = .ok (.iload_n 3, 1) := by decide +kernel
theorem dX7_take_81 : decode cX7_take 81 = .ok (.aload_n 0, 1) := by decide +kernel
theorem dX7_take_82 : decode cX7_take 82 = .ok (.getfield 83, 3) := by decide +kernel
theorem dX7_take_85 : decode cX7_take 85 = .ok (.if_icmp .ge 69, 3) := by decide +kernel
theorem dX7_take_88 : decode cX7_take 88 = .ok (.aload_n 0, 1) := by decide +kernel
theorem dX7_take_89 : decode cX7_take 89 = .ok (.getfield 23, 3) := by decide +kernel
theorem dX7_take_92 : decode cX7_take 92 = .ok (.iload_n 3, 1) := by decide +kernel
theorem dX7_take_93 : decode cX7_take 93 = .ok (.iaload, 1) := by decide +kernel
theorem dX7_take_94 : decode cX7_take 94 = .ok (.istore 4, 2) := by decide +kernel
theorem dX7_take_96 : decode cX7_take 96 = .ok (.iconst 0, 1) := by decide +kernel
theorem dX7_take_97 : decode cX7_take 97 = .ok (.istore 5, 2) := by decide +kernel
theorem dX7_take_99 : decode cX7_take 99 = .ok (.aload_n 0, 1) := by decide +kernel
theorem dX7_take_100 : decode cX7_take 100 = .ok (.iload 5, 2) := by decide +kernel
theorem dX7_take_102 : decode cX7_take 102 = .ok (.iload_n 3, 1) := by decide +kernel
theorem dX7_take_103 : decode cX7_take 103 = .ok (.invokevirtual 96, 3) := by decide +kernel
theorem dX7_take_106 : decode cX7_take 106 = .ok (.ifCond .eq 8, 3) := by decide +kernel
theorem dX7_take_109 : decode cX7_take 109 = .ok (.iload 4, 2) := by decide +kernel
theorem dX7_take_111 : decode cX7_take 111 = .ok (.ifCond .le 29, 3) := by decide +kernel
theorem dX7_take_114 : decode cX7_take 114 = .ok (.iload 4, 2) := by decide +kernel
theorem dX7_take_116 : decode cX7_take 116 = .ok (.aload_n 0, 1) := by decide +kernel
theorem dX7_take_117 : decode cX7_take 117 = .ok (.iload 5, 2) := by decide +kernel
theorem dX7_take_119 : decode cX7_take 119 = .ok (.iload_n 3, 1) := by decide +kernel
theorem dX7_take_120 : decode cX7_take 120 = .ok (.invokevirtual 96, 3) := by decide +kernel
theorem dX7_take_123 : decode cX7_take 123 = .ok (.ifCond .eq 7, 3) := by decide +kernel
theorem dX7_take_126 : decode cX7_take 126 = .ok (.iconst 1, 1) := by decide +kernel
theorem dX7_take_127 : decode cX7_take 127 = .ok (.goto 4, 3) := by decide +kernel
theorem dX7_take_130 : decode cX7_take 130 = .ok (.iconst 0, 1) := by decide +kernel
theorem dX7_take_131 : decode cX7_take 131 = .ok (.isub, 1) := by decide +kernel
theorem dX7_take_132 : decode cX7_take 132 = .ok (.istore 4, 2) := by decide +kernel
theorem dX7_take_134 : decode cX7_take 134 = .ok (.iinc 5 1, 3) := by decide +kernel
theorem dX7_take_137 : decode cX7_take 137 = .ok (.goto (-38), 3) := by decide +kernel
theorem dX7_take_140 : decode cX7_take 140 = .ok (.aload_n 0, 1) := by decide +kernel
theorem dX7_take_141 : decode cX7_take 141 = .ok (.getfield 23, 3) := by decide +kernel
theorem dX7_take_144 : decode cX7_take 144 = .ok (.iload_n 3, 1) := by decide +kernel
theorem dX7_take_145 : decode cX7_take 145 = .ok (.iload 5, 2) := by decide +kernel
theorem dX7_take_147 : decode cX7_take 147 = .ok (.iastore, 1) := by decide +kernel
theorem dX7_take_148 : decode cX7_take 148 = .ok (.iinc 3 1, 3) := by decide +kernel
theorem dX7_take_151 : decode cX7_take 151 = .ok (.goto (-71), 3) := by decide +kernel
theorem dX7_take_154 : decode cX7_take 154 = .ok (.return_, 1) := by decide +kernel
set_option maxRecDepth 20000 in
theorem ggX7_goal_X7_numberOf : GoodIn wsX7_goal wsX7_numberOf := goodIn_ca (goodIn_r _ [9, 1, 2, 10, 11, 4, 12, 13, 14, 8, 15, 16, 17, 18, 19, 20, 21, 22, 23, 24, 25, 26, 27, 28, 29, 30, 31, 32, 33, 34, 35, 36, 37, 38] (by decide +kernel) (by decide +kernel)) (goodIn_sub (fun _ h => List.mem_cons_of_mem _ (List.mem_append_right _ h)) (by decide +kernel))
set_option maxRecDepth 20000 in
theorem gX7_goal_X7_numberOf : GoodIn wsX7_goal (wsV RX7 100 RX7 yX7_numberOf wsX7_numberOf) := goodIn_app (goodIn_of _ (by decide +kernel)) ggX7_goal_X7_numberOf
theorem dX7_goal_0 : decode cX7_goal 0 = .ok (.iconst 0, 1) := by decide +kernel
theorem dX7_goal_1 : decode cX7_goal 1 = .ok (.istore_n 1, 1) := by decide +kernel
theorem dX7_goal_2 : decode cX7_goal 2 = .ok (.iload_n 1, 1) := by decide +kernel
theorem dX7_goal_3 : decode cX7_goal 3 = .ok (.aload_n 0, 1) := by decide +kernel
theorem dX7_goal_4 : decode cX7_goal 4 = .ok (.getfield 83, 3) := by decide +kernel
theorem dX7_goal_7 : decode cX7_goal 7 = .ok (.if_icmp .ge 28, 3) := by decide +kernel
theorem dX7_goal_10 : decode cX7_goal 10 = .ok (.aload_n 0, 1) := by decide +kernel
theorem dX7_goal_11 : decode cX7_goal 11 = .ok (.getfield 23, 3) := by decide +kernel
theorem dX7_goal_14 : decode cX7_goal 14 = .ok (.iload_n 1, 1) := by decide +kernel
theorem dX7_goal_15 : decode cX7_goal 15 = .ok (.aload_n 0, 1) := by decide +kernel
theorem dX7_goal_16 : decode cX7_goal 16 = .ok (.getfield 20, 3) := by decide +kernel
theorem dX7_goal_19 : decode cX7_goal 19 = .ok (.iload_n 1, 1) := by decide +kernel
theorem dX7_goal_20 : decode cX7_goal 20 = .ok (.iaload, 1) := by decide +kernel
theorem dX7_goal_21 : decode cX7_goal 21 = .ok (.iastore, 1) := by decide +kernel
theorem dX7_goal_22 : decode cX7_goal 22 = .ok (.aload_n 0, 1) := by decide +kernel
theorem dX7_goal_23 : decode cX7_goal 23 = .ok (.getfield 26, 3) := by decide +kernel
theorem dX7_goal_26 : decode cX7_goal 26 = .ok (.iload_n 1, 1) := by decide +kernel
theorem dX7_goal_27 : decode cX7_goal 27 = .ok (.iconst 0, 1) := by decide +kernel
theorem dX7_goal_28 : decode cX7_goal 28 = .ok (.iastore, 1) := by decide +kernel
theorem dX7_goal_29 : decode cX7_goal 29 = .ok (.iinc 1 1, 3) := by decide +kernel
theorem dX7_goal_32 : decode cX7_goal 32 = .ok (.goto (-30), 3) := by decide +kernel
theorem dX7_goal_35 : decode cX7_goal 35 = .ok (.aload_n 0, 1) := by decide +kernel
theorem dX7_goal_36 : decode cX7_goal 36 = .ok (.invokevirtual 100, 3) := by decide +kernel
theorem dX7_goal_39 : decode cX7_goal 39 = .ok (.ireturn, 1) := by decide +kernel
set_option maxRecDepth 20000 in
theorem ggX7_isState_X7_countStates : GoodIn wsX7_isState wsX7_countStates := goodIn_r _ [5, 6, 7, 8, 9, 10, 11, 12, 13, 14, 15, 16, 17, 18, 19, 20, 21, 22, 23, 24, 25, 26, 27, 28, 29, 30, 31] (by decide +kernel) (by decide +kernel)
set_option maxRecDepth 20000 in
theorem gX7_isState_X7_countStates : GoodIn wsX7_isState (wsV RX7 93 RX7 yX7_countStates wsX7_countStates) := goodIn_app (goodIn_of _ (by decide +kernel)) ggX7_isState_X7_countStates
theorem dX7_isState_0 : decode cX7_isState 0 = .ok (.iload_n 1, 1) := by decide +kernel
theorem dX7_isState_1 : decode cX7_isState 1 = .ok (.ifCond .lt 15, 3) := by decide +kernel
theorem dX7_isState_4 : decode cX7_isState 4 = .ok (.iload_n 1, 1) := by decide +kernel
theorem dX7_isState_5 : decode cX7_isState 5 = .ok (.aload_n 0, 1) := by decide +kernel
theorem dX7_isState_6 : decode cX7_isState 6 = .ok (.invokevirtual 93, 3) := by decide +kernel
theorem dX7_isState_9 : decode cX7_isState 9 = .ok (.if_icmp .ge 7, 3) := by decide +kernel
theorem dX7_isState_12 : decode cX7_isState 12 = .ok (.iconst 1, 1) := by decide +kernel
theorem dX7_isState_13 : decode cX7_isState 13 = .ok (.goto 4, 3) := by decide +kernel
theorem dX7_isState_16 : decode cX7_isState 16 = .ok (.iconst 0, 1) := by decide +kernel
theorem dX7_isState_17 : decode cX7_isState 17 = .ok (.ireturn, 1) := by decide +kernel
set_option maxRecDepth 20000 in
theorem ggX7_set_X7_isState : GoodIn wsX7_set wsX7_isState := goodIn_r _ [6, 7, 8, 9, 5, 10, 11, 12, 13, 19, 20, 21, 22, 23, 24, 25, 26, 27, 28, 29, 30, 31, 32, 33, 34, 35, 36, 37, 38, 39, 40, 41] (by decide +kernel) (by decide +kernel)
set_option maxRecDepth 20000 in
theorem gX7_set_X7_isState : GoodIn wsX7_set (wsV RX7 103 RX7 yX7_isState wsX7_isState) := goodIn_app (goodIn_of _ (by decide +kernel)) ggX7_set_X7_isState
set_option maxRecDepth 20000 in
theorem ggX7_set_X7_throwsIf : GoodIn wsX7_set wsX7_throwsIf := goodIn_r _ [17, 18, 19, 20, 21, 22, 23, 24, 25, 26, 27, 28, 29, 30, 31, 32, 33, 34, 35, 36, 37, 38, 39, 40, 41] (by decide +kernel) (by decide +kernel)
set_option maxRecDepth 20000 in
theorem gX7_set_X7_throwsIf : GoodIn wsX7_set (wsV RX7 75 RX7 yX7_throwsIf wsX7_throwsIf) := goodIn_app (goodIn_of _ (by decide +kernel)) ggX7_set_X7_throwsIf
theorem dX7_set_0 : decode cX7_set 0 = .ok (.aload_n 0, 1) := by decide +kernel
theorem dX7_set_1 : decode cX7_set 1 = .ok (.iconst 1, 1) := by decide +kernel
theorem dX7_set_2 : decode cX7_set 2 = .ok (.aload_n 0, 1) := by decide +kernel
theorem dX7_set_3 : decode cX7_set 3 = .ok (.iload_n 1, 1) := by decide +kernel
theorem dX7_set_4 : decode cX7_set 4 = .ok (.invokevirtual 103, 3) := by decide +kernel
theorem dX7_set_7 : decode cX7_set 7 = .ok (.ifCond .ne 7, 3) := by decide +kernel
theorem dX7_set_10 : decode cX7_set 10 = .ok (.iconst 1, 1) := by decide +kernel
theorem dX7_set_11 : decode cX7_set 11 = .ok (.goto 4, 3) := by decide +kernel
theorem dX7_set_14 : decode cX7_set 14 = .ok (.iconst 0, 1) := by decide +kernel
theorem dX7_set_15 : decode cX7_set 15 = .ok (.invokevirtual 75, 3) := by decide +kernel
theorem dX7_set_18 : decode cX7_set 18 = .ok (.ifCond .eq 4, 3) := by decide +kernel
theorem dX7_set_21 : decode cX7_set 21 = .ok (.return_, 1) := by decide +kernel
theorem dX7_set_22 : decode cX7_set 22 = .ok (.aload_n 0, 1) := by decide +kernel
theorem dX7_set_23 : decode cX7_set 23 = .ok (.iload_n 1, 1) := by decide +kernel
theorem dX7_set_24 : decode cX7_set 24 = .ok (.putfield 90, 3) := by decide +kernel
theorem dX7_set_27 : decode cX7_set 27 = .ok (.return_, 1) := by decide +kernel
theorem dX7_number_0 : decode cX7_number 0 = .ok (.aload_n 0, 1) := by decide +kernel
theorem dX7_number_1 : decode cX7_number 1 = .ok (.iconst 0, 1) := by decide +kernel
theorem dX7_number_2 : decode cX7_number 2 = .ok (.putfield 58, 3) := by decide +kernel
theorem dX7_number_5 : decode cX7_number 5 = .ok (.aload_n 0, 1) := by decide +kernel
theorem dX7_number_6 : decode cX7_number 6 = .ok (.getfield 90, 3) := by decide +kernel
theorem dX7_number_9 : decode cX7_number 9 = .ok (.ireturn, 1) := by decide +kernel
theorem dX7_rankOf_0 : decode cX7_rankOf 0 = .ok (.iconst 0, 1) := by decide +kernel
theorem dX7_rankOf_1 : decode cX7_rankOf 1 = .ok (.istore_n 2, 1) := by decide +kernel
theorem dX7_rankOf_2 : decode cX7_rankOf 2 = .ok (.iload_n 2, 1) := by decide +kernel
theorem dX7_rankOf_3 : decode cX7_rankOf 3 = .ok (.aload_n 0, 1) := by decide +kernel
theorem dX7_rankOf_4 : decode cX7_rankOf 4 = .ok (.getfield 83, 3) := by decide +kernel
theorem dX7_rankOf_7 : decode cX7_rankOf 7 = .ok (.if_icmp .ge 21, 3) := by decide +kernel
theorem dX7_rankOf_10 : decode cX7_rankOf 10 = .ok (.aload_n 0, 1) := by decide +kernel
theorem dX7_rankOf_11 : decode cX7_rankOf 11 = .ok (.getfield 20, 3) := by decide +kernel
theorem dX7_rankOf_14 : decode cX7_rankOf 14 = .ok (.iload_n 2, 1) := by decide +kernel
theorem dX7_rankOf_15 : decode cX7_rankOf 15 = .ok (.iaload, 1) := by decide +kernel
theorem dX7_rankOf_16 : decode cX7_rankOf 16 = .ok (.iload_n 1, 1) := by decide +kernel
theorem dX7_rankOf_17 : decode cX7_rankOf 17 = .ok (.if_icmp .ne 5, 3) := by decide +kernel
theorem dX7_rankOf_20 : decode cX7_rankOf 20 = .ok (.iload_n 2, 1) := by decide +kernel
theorem dX7_rankOf_21 : decode cX7_rankOf 21 = .ok (.ireturn, 1) := by decide +kernel
theorem dX7_rankOf_22 : decode cX7_rankOf 22 = .ok (.iinc 2 1, 3) := by decide +kernel
theorem dX7_rankOf_25 : decode cX7_rankOf 25 = .ok (.goto (-23), 3) := by decide +kernel
theorem dX7_rankOf_28 : decode cX7_rankOf 28 = .ok (.iconst (-1), 1) := by decide +kernel
theorem dX7_rankOf_29 : decode cX7_rankOf 29 = .ok (.ireturn, 1) := by decide +kernel
set_option maxRecDepth 20000 in
theorem ggX7_place_X7_isPlace : GoodIn wsX7_place wsX7_isPlace := goodIn_r _ [7, 8, 30, 31, 32, 33, 34, 35, 36, 37, 38, 39, 40, 41, 42, 43, 44, 45, 46, 47, 48, 49, 50, 51, 52] (by decide +kernel) (by decide +kernel)
set_option maxRecDepth 20000 in
theorem gX7_place_X7_isPlace : GoodIn wsX7_place (wsV RX7 72 RX7 yX7_isPlace wsX7_isPlace) := goodIn_app (goodIn_of _ (by decide +kernel)) ggX7_place_X7_isPlace
set_option maxRecDepth 20000 in
theorem ggX7_place_X7_throwsIf : GoodIn wsX7_place wsX7_throwsIf := goodIn_r _ [12, 13, 30, 31, 32, 33, 34, 35, 36, 37, 38, 39, 40, 41, 42, 43, 44, 45, 46, 47, 48, 49, 50, 51, 52] (by decide +kernel) (by decide +kernel)
set_option maxRecDepth 20000 in
theorem gX7_place_X7_throwsIf : GoodIn wsX7_place (wsV RX7 75 RX7 yX7_throwsIf wsX7_throwsIf) := goodIn_app (goodIn_of _ (by decide +kernel)) ggX7_place_X7_throwsIf
set_option maxRecDepth 20000 in
theorem ggX7_place_X7_take : GoodIn wsX7_place wsX7_take := goodIn_ca (goodIn_r _ [17, 18, 19, 20, 2, 8, 21, 22, 23, 6, 24, 30, 31, 32, 33, 34, 35, 36, 37, 38, 39, 40, 41, 42, 43, 44, 45, 46, 47, 48, 49, 50, 51, 52] (by decide +kernel) (by decide +kernel)) (goodIn_sub (fun _ h => List.mem_cons_of_mem _ (List.mem_append_right _ h)) (by decide +kernel))
set_option maxRecDepth 20000 in
theorem gX7_place_X7_take : GoodIn wsX7_place (wsV RX7 106 RX7 yX7_take wsX7_take) := goodIn_app (goodIn_of _ (by decide +kernel)) ggX7_place_X7_take
set_option maxRecDepth 20000 in
theorem ggX7_place_X7_rankOf : GoodIn wsX7_place wsX7_rankOf := goodIn_ca (goodIn_r _ [28, 18, 29, 30, 31, 32, 33, 34, 35, 36, 37, 38, 39, 40, 41, 42, 43, 44, 45, 46, 47, 48, 49, 50, 51, 52] (by decide +kernel) (by decide +kernel)) (goodIn_sub (fun _ h => List.mem_cons_of_mem _ (List.mem_append_right _ h)) (by decide +kernel))
set_option maxRecDepth 20000 in
theorem gX7_place_X7_rankOf : GoodIn wsX7_place (wsV RX7 110 RX7 yX7_rankOf wsX7_rankOf) := goodIn_app (goodIn_of _ (by decide +kernel)) ggX7_place_X7_rankOf
theorem dX7_place_0 : decode cX7_place 0 = .ok (.aload_n 0, 1) := by decide +kernel
theorem dX7_place_1 : decode cX7_place 1 = .ok (.iconst 1, 1) := by decide +kernel
theorem dX7_place_2 : decode cX7_place 2 = .ok (.aload_n 0, 1) := by decide +kernel
theorem dX7_place_3 : decode cX7_place 3 = .ok (.iload_n 1, 1) := by decide +kernel
theorem dX7_place_4 : decode cX7_place 4 = .ok (.invokevirtual 72, 3) := by decide +kernel
theorem dX7_place_7 : decode cX7_place 7 = .ok (.ifCond .ne 7, 3) := by decide +kernel
theorem dX7_place_10 : decode cX7_place 10 = .ok (.iconst 1, 1) := by decide +kernel
theorem dX7_place_11 : decode cX7_place 11 = .ok (.goto 4, 3) := by decide +kernel
theorem dX7_place_14 : decode cX7_place 14 = .ok (.iconst 0, 1) := by decide +kernel
theorem dX7_place_15 : decode cX7_place 15 = .ok (.invokevirtual 75, 3) := by decide +kernel
theorem dX7_place_18 : decode cX7_place 18 = .ok (.ifCond .eq 5, 3) := by decide +kernel
theorem dX7_place_21 : decode cX7_place 21 = .ok (.iconst 0, 1) := by decide +kernel
theorem dX7_place_22 : decode cX7_place 22 = .ok (.ireturn, 1) := by decide +kernel
theorem dX7_place_23 : decode cX7_place 23 = .ok (.aload_n 0, 1) := by decide +kernel
theorem dX7_place_24 : decode cX7_place 24 = .ok (.aload_n 0, 1) := by decide +kernel
theorem dX7_place_25 : decode cX7_place 25 = .ok (.getfield 90, 3) := by decide +kernel
theorem dX7_place_28 : decode cX7_place 28 = .ok (.invokevirtual 106, 3) := by decide +kernel
theorem dX7_place_31 : decode cX7_place 31 = .ok (.aload_n 0, 1) := by decide +kernel
theorem dX7_place_32 : decode cX7_place 32 = .ok (.iload_n 1, 1) := by decide +kernel
theorem dX7_place_33 : decode cX7_place 33 = .ok (.invokevirtual 110, 3) := by decide +kernel
theorem dX7_place_36 : decode cX7_place 36 = .ok (.ifCond .ge 7, 3) := by decide +kernel
theorem dX7_place_39 : decode cX7_place 39 = .ok (.iconst (-1), 1) := by decide +kernel
theorem dX7_place_40 : decode cX7_place 40 = .ok (.goto 13, 3) := by decide +kernel
theorem dX7_place_43 : decode cX7_place 43 = .ok (.aload_n 0, 1) := by decide +kernel
theorem dX7_place_44 : decode cX7_place 44 = .ok (.getfield 23, 3) := by decide +kernel
theorem dX7_place_47 : decode cX7_place 47 = .ok (.aload_n 0, 1) := by decide +kernel
theorem dX7_place_48 : decode cX7_place 48 = .ok (.iload_n 1, 1) := by decide +kernel
theorem dX7_place_49 : decode cX7_place 49 = .ok (.invokevirtual 110, 3) := by decide +kernel
theorem dX7_place_52 : decode cX7_place 52 = .ok (.iaload, 1) := by decide +kernel
theorem dX7_place_53 : decode cX7_place 53 = .ok (.ireturn, 1) := by decide +kernel
set_option maxRecDepth 20000 in
theorem ggX7_twist_X7_isPlace : GoodIn wsX7_twist wsX7_isPlace := goodIn_r _ [7, 8, 30, 31, 32, 33, 34, 35, 36, 37, 38, 39, 40, 41, 42, 43, 44, 45, 46, 47, 48, 49, 50, 51, 52] (by decide +kernel) (by decide +kernel)
set_option maxRecDepth 20000 in
theorem gX7_twist_X7_isPlace : GoodIn wsX7_twist (wsV RX7 72 RX7 yX7_isPlace wsX7_isPlace) := goodIn_app (goodIn_of _ (by decide +kernel)) ggX7_twist_X7_isPlace
set_option maxRecDepth 20000 in
theorem ggX7_twist_X7_throwsIf : GoodIn wsX7_twist wsX7_throwsIf := goodIn_r _ [12, 13, 30, 31, 32, 33, 34, 35, 36, 37, 38, 39, 40, 41, 42, 43, 44, 45, 46, 47, 48, 49, 50, 51, 52] (by decide +kernel) (by decide +kernel)
set_option maxRecDepth 20000 in
theorem gX7_twist_X7_throwsIf : GoodIn wsX7_twist (wsV RX7 75 RX7 yX7_throwsIf wsX7_throwsIf) := goodIn_app (goodIn_of _ (by decide +kernel)) ggX7_twist_X7_throwsIf
set_option maxRecDepth 20000 in
theorem ggX7_twist_X7_take : GoodIn wsX7_twist wsX7_take := goodIn_ca (goodIn_r _ [17, 18, 2, 19, 20, 8, 21, 22, 23, 6, 24, 30, 31, 32, 33, 34, 35, 36, 37, 38, 39, 40, 41, 42, 43, 44, 45, 46, 47, 48, 49, 50, 51, 52] (by decide +kernel) (by decide +kernel)) (goodIn_sub (fun _ h => List.mem_cons_of_mem _ (List.mem_append_right _ h)) (by decide +kernel))
set_option maxRecDepth 20000 in
theorem gX7_twist_X7_take : GoodIn wsX7_twist (wsV RX7 106 RX7 yX7_take wsX7_take) := goodIn_app (goodIn_of _ (by decide +kernel)) ggX7_twist_X7_take
set_option maxRecDepth 20000 in
theorem ggX7_twist_X7_rankOf : GoodIn wsX7_twist wsX7_rankOf := goodIn_ca (goodIn_r _ [28, 18, 29, 30, 31, 32, 33, 34, 35, 36, 37, 38, 39, 40, 41, 42, 43, 44, 45, 46, 47, 48, 49, 50, 51, 52] (by decide +kernel) (by decide +kernel)) (goodIn_sub (fun _ h => List.mem_cons_of_mem _ (List.mem_append_right _ h)) (by decide +kernel))
set_option maxRecDepth 20000 in
theorem gX7_twist_X7_rankOf : GoodIn wsX7_twist (wsV RX7 110 RX7 yX7_rankOf wsX7_rankOf) := goodIn_app (goodIn_of _ (by decide +kernel)) ggX7_twist_X7_rankOf
theorem dX7_twist_0 : decode cX7_twist 0 = .ok (.aload_n 0, 1) := by decide +kernel
theorem dX7_twist_1 : decode cX7_twist 1 = .ok (.iconst 1, 1) := by decide +kernel
theorem dX7_twist_2 : decode cX7_twist 2 = .ok (.aload_n 0, 1) := by decide +kernel
theorem dX7_twist_3 : decode cX7_twist 3 = .ok (.iload_n 1, 1) := by decide +kernel
theorem dX7_twist_4 : decode cX7_twist 4 = .ok (.invokevirtual 72, 3) := by decide +kernel
theorem dX7_twist_7 : decode cX7_twist 7 = .ok (.ifCond .ne 7, 3) := by decide +kernel
theorem dX7_twist_10 : decode cX7_twist 10 = .ok (.iconst 1, 1) := by decide +kernel
theorem dX7_twist_11 : decode cX7_twist 11 = .ok (.goto 4, 3) := by decide +kernel
theorem dX7_twist_14 : decode cX7_twist 14 = .ok (.iconst 0, 1) := by decide +kernel
theorem dX7_twist_15 : decode cX7_twist 15 = .ok (.invokevirtual 75, 3) := by decide +kernel
theorem dX7_twist_18 : decode cX7_twist 18 = .ok (.ifCond .eq 5, 3) := by decide +kernel
theorem dX7_twist_21 : decode cX7_twist 21 = .ok (.iconst 0, 1) := by decide +kernel
theorem dX7_twist_22 : decode cX7_twist 22 = .ok (.ireturn, 1) := by decide +kernel
theorem dX7_twist_23 : decode cX7_twist 23 = .ok (.aload_n 0, 1) := by decide +kernel
theorem dX7_twist_24 : decode cX7_twist 24 = .ok (.aload_n 0, 1) := by decide +kernel
theorem dX7_twist_25 : decode cX7_twist 25 = .ok (.getfield 90, 3) := by decide +kernel
theorem dX7_twist_28 : decode cX7_twist 28 = .ok (.invokevirtual 106, 3) := by decide +kernel
theorem dX7_twist_31 : decode cX7_twist 31 = .ok (.aload_n 0, 1) := by decide +kernel
theorem dX7_twist_32 : decode cX7_twist 32 = .ok (.iload_n 1, 1) := by decide +kernel
theorem dX7_twist_33 : decode cX7_twist 33 = .ok (.invokevirtual 110, 3) := by decide +kernel
theorem dX7_twist_36 : decode cX7_twist 36 = .ok (.ifCond .ge 7, 3) := by decide +kernel
theorem dX7_twist_39 : decode cX7_twist 39 = .ok (.iconst (-1), 1) := by decide +kernel
theorem dX7_twist_40 : decode cX7_twist 40 = .ok (.goto 13, 3) := by decide +kernel
theorem dX7_twist_43 : decode cX7_twist 43 = .ok (.aload_n 0, 1) := by decide +kernel
theorem dX7_twist_44 : decode cX7_twist 44 = .ok (.getfield 26, 3) := by decide +kernel
theorem dX7_twist_47 : decode cX7_twist 47 = .ok (.aload_n 0, 1) := by decide +kernel
theorem dX7_twist_48 : decode cX7_twist 48 = .ok (.iload_n 1, 1) := by decide +kernel
theorem dX7_twist_49 : decode cX7_twist 49 = .ok (.invokevirtual 110, 3) := by decide +kernel
theorem dX7_twist_52 : decode cX7_twist 52 = .ok (.iaload, 1) := by decide +kernel
theorem dX7_twist_53 : decode cX7_twist 53 = .ok (.ireturn, 1) := by decide +kernel
theorem dX7_act_0 : decode cX7_act 0 = .ok (.iconst 0, 1) := by decide +kernel
theorem dX7_act_1 : decode cX7_act 1 = .ok (.istore_n 2, 1) := by decide +kernel
theorem dX7_act_2 : decode cX7_act 2 = .ok (.iload_n 2, 1) := by decide +kernel
theorem dX7_act_3 : decode cX7_act 3 = .ok (.aload_n 0, 1) := by decide +kernel
theorem dX7_act_4 : decode cX7_act 4 = .ok (.getfield 83, 3) := by decide +kernel
theorem dX7_act_7 : decode cX7_act 7 = .ok (.if_icmp .ge 62, 3) := by decide +kernel
theorem dX7_act_10 : decode cX7_act 10 = .ok (.aload_n 0, 1) := by decide +kernel
theorem dX7_act_11 : decode cX7_act 11 = .ok (.getfield 23, 3) := by decide +kernel
theorem dX7_act_14 : decode cX7_act 14 = .ok (.iload_n 2, 1) := by decide +kernel
theorem dX7_act_15 : decode cX7_act 15 = .ok (.iaload, 1) := by decide +kernel
theorem dX7_act_16 : decode cX7_act 16 = .ok (.istore_n 3, 1) := by decide +kernel
theorem dX7_act_17 : decode cX7_act 17 = .ok (.aload_n 0, 1) := by decide +kernel
theorem dX7_act_18 : decode cX7_act 18 = .ok (.getfield 26, 3) := by decide +kernel
theorem dX7_act_21 : decode cX7_act 21 = .ok (.iload_n 2, 1) := by decide +kernel
theorem dX7_act_22 : decode cX7_act 22 = .ok (.aload_n 0, 1) := by decide +kernel
theorem dX7_act_23 : decode cX7_act 23 = .ok (.getfield 26, 3) := by decide +kernel
theorem dX7_act_26 : decode cX7_act 26 = .ok (.iload_n 2, 1) := by decide +kernel
theorem dX7_act_27 : decode cX7_act 27 = .ok (.iaload, 1) := by decide +kernel
theorem dX7_act_28 : decode cX7_act 28 = .ok (.aload_n 0, 1) := by decide +kernel
theorem dX7_act_29 : decode cX7_act 29 = .ok (.getfield 13, 3) := by decide +kernel
theorem dX7_act_32 : decode cX7_act 32 = .ok (.bipush 8, 2) := by decide +kernel
theorem dX7_act_34 : decode cX7_act 34 = .ok (.iload_n 1, 1) := by decide +kernel
theorem dX7_act_35 : decode cX7_act 35 = .ok (.imul, 1) := by decide +kernel
theorem dX7_act_36 : decode cX7_act 36 = .ok (.iload_n 3, 1) := by decide +kernel
theorem dX7_act_37 : decode cX7_act 37 = .ok (.iadd, 1) := by decide +kernel
theorem dX7_act_38 : decode cX7_act 38 = .ok (.iaload, 1) := by decide +kernel
theorem dX7_act_39 : decode cX7_act 39 = .ok (.iadd, 1) := by decide +kernel
theorem dX7_act_40 : decode cX7_act 40 = .ok (.aload_n 0, 1) := by decide +kernel
theorem dX7_act_41 : decode cX7_act 41 = .ok (.getfield 55, 3) := by decide +kernel
theorem dX7_act_44 : decode cX7_act 44 = .ok (.irem, 1) := by decide +kernel
theorem dX7_act_45 : decode cX7_act 45 = .ok (.iastore, 1) := by decide +kernel
theorem dX7_act_46 : decode cX7_act 46 = .ok (.aload_n 0, 1) := by decide +kernel
theorem dX7_act_47 : decode cX7_act 47 = .ok (.getfield 23, 3) := by decide +kernel
theorem dX7_act_50 : decode cX7_act 50 = .ok (.iload_n 2, 1) := by decide +kernel
theorem dX7_act_51 : decode cX7_act 51 = .ok (.aload_n 0, 1) := by decide +kernel
theorem dX7_act_52 : decode cX7_act 52 = .ok (.getfield 7, 3) := by decide +kernel
theorem dX7_act_55 : decode cX7_act 55 = .ok (.bipush 8, 2) := by decide +kernel
theorem dX7_act_57 : decode cX7_act 57 = .ok (.iload_n 1, 1) := by decide +kernel
theorem dX7_act_58 : decode cX7_act 58 = .ok (.imul, 1) := by decide +kernel
theorem dX7_act_59 : decode cX7_act 59 = .ok (.iload_n 3, 1) := by decide +kernel
theorem dX7_act_60 : decode cX7_act 60 = .ok (.iadd, 1) := by decide +kernel
theorem dX7_act_61 : decode cX7_act 61 = .ok (.iaload, 1) := by decide +kernel
theorem dX7_act_62 : decode cX7_act 62 = .ok (.iastore, 1) := by decide +kernel
theorem dX7_act_63 : decode cX7_act 63 = .ok (.iinc 2 1, 3) := by decide +kernel
theorem dX7_act_66 : decode cX7_act 66 = .ok (.goto (-64), 3) := by decide +kernel
theorem dX7_act_69 : decode cX7_act 69 = .ok (.return_, 1) := by decide +kernel
set_option maxRecDepth 20000 in
theorem ggX7_apply_X7_isMove : GoodIn wsX7_apply wsX7_isMove := goodIn_r _ [6, 7, 36, 37, 38, 39, 40, 41, 42, 43, 44, 45, 46, 47, 48, 49, 50, 51, 52, 53, 54, 55, 56, 57, 58] (by decide +kernel) (by decide +kernel)
set_option maxRecDepth 20000 in
theorem gX7_apply_X7_isMove : GoodIn wsX7_apply (wsV RX7 68 RX7 yX7_isMove wsX7_isMove) := goodIn_app (goodIn_of _ (by decide +kernel)) ggX7_apply_X7_isMove
set_option maxRecDepth 20000 in
theorem ggX7_apply_X7_throwsIf : GoodIn wsX7_apply wsX7_throwsIf := goodIn_r _ [11, 12, 36, 37, 38, 39, 40, 41, 42, 43, 44, 45, 46, 47, 48, 49, 50, 51, 52, 53, 54, 55, 56, 57, 58] (by decide +kernel) (by decide +kernel)
set_option maxRecDepth 20000 in
theorem gX7_apply_X7_throwsIf : GoodIn wsX7_apply (wsV RX7 75 RX7 yX7_throwsIf wsX7_throwsIf) := goodIn_app (goodIn_of _ (by decide +kernel)) ggX7_apply_X7_throwsIf
set_option maxRecDepth 20000 in
theorem ggX7_apply_X7_take : GoodIn wsX7_apply wsX7_take := goodIn_ca (goodIn_r _ [16, 17, 18, 19, 20, 21, 22, 23, 24, 5, 25, 36, 37, 38, 39, 40, 41, 42, 43, 44, 45, 46, 47, 48, 49, 50, 51, 52, 53, 54, 55, 56, 57, 58] (by decide +kernel) (by decide +kernel)) (goodIn_sub (fun _ h => List.mem_cons_of_mem _ (List.mem_append_right _ h)) (by decide +kernel))
set_option maxRecDepth 20000 in
theorem gX7_apply_X7_take : GoodIn wsX7_apply (wsV RX7 106 RX7 yX7_take wsX7_take) := goodIn_app (goodIn_of _ (by decide +kernel)) ggX7_apply_X7_take
set_option maxRecDepth 20000 in
theorem ggX7_apply_X7_act : GoodIn wsX7_apply wsX7_act := goodIn_ca (goodIn_r _ [29, 17, 20, 18, 30, 19, 31, 36, 37, 38, 39, 40, 41, 42, 43, 44, 45, 46, 47, 48, 49, 50, 51, 52, 53, 54, 55, 56, 57, 58] (by decide +kernel) (by decide +kernel)) (goodIn_sub (fun _ h => List.mem_cons_of_mem _ (List.mem_append_right _ h)) (by decide +kernel))
set_option maxRecDepth 20000 in
theorem gX7_apply_X7_act : GoodIn wsX7_apply (wsV RX7 113 RX7 yX7_act wsX7_act) := goodIn_app (goodIn_of _ (by decide +kernel)) ggX7_apply_X7_act
set_option maxRecDepth 20000 in
theorem ggX7_apply_X7_numberOf : GoodIn wsX7_apply wsX7_numberOf := goodIn_ca (goodIn_r _ [35, 17, 20, 21, 19, 18, 22, 23, 24, 5, 25, 36, 37, 38, 39, 40, 41, 42, 43, 44, 45, 46, 47, 48, 49, 50, 51, 52, 53, 54, 55, 56, 57, 58] (by decide +kernel) (by decide +kernel)) (goodIn_sub (fun _ h => List.mem_cons_of_mem _ (List.mem_append_right _ h)) (by decide +kernel))
set_option maxRecDepth 20000 in
theorem gX7_apply_X7_numberOf : GoodIn wsX7_apply (wsV RX7 100 RX7 yX7_numberOf wsX7_numberOf) := goodIn_app (goodIn_of _ (by decide +kernel)) ggX7_apply_X7_numberOf
theorem dX7_apply_0 : decode cX7_apply 0 = .ok (.aload_n 0, 1) := by decide +kernel
theorem dX7_apply_1 : decode cX7_apply 1 = .ok (.iconst 1, 1) := by decide +kernel
theorem dX7_apply_2 : decode cX7_apply 2 = .ok (.aload_n 0, 1) := by decide +kernel
theorem dX7_apply_3 : decode cX7_apply 3 = .ok (.iload_n 1, 1) := by decide +kernel
theorem dX7_apply_4 : decode cX7_apply 4 = .ok (.invokevirtual 68, 3) := by decide +kernel
theorem dX7_apply_7 : decode cX7_apply 7 = .ok (.ifCond .ne 7, 3) := by decide +kernel
theorem dX7_apply_10 : decode cX7_apply 10 = .ok (.iconst 1, 1) := by decide +kernel
theorem dX7_apply_11 : decode cX7_apply 11 = .ok (.goto 4, 3) := by decide +kernel
theorem dX7_apply_14 : decode cX7_apply 14 = .ok (.iconst 0, 1) := by decide +kernel
theorem dX7_apply_15 : decode cX7_apply 15 = .ok (.invokevirtual 75, 3) := by decide +kernel
theorem dX7_apply_18 : decode cX7_apply 18 = .ok (.ifCond .eq 4, 3) := by decide +kernel
theorem dX7_apply_21 : decode cX7_apply 21 = .ok (.return_, 1) := by decide +kernel
theorem dX7_apply_22 : decode cX7_apply 22 = .ok (.aload_n 0, 1) := by decide +kernel
theorem dX7_apply_23 : decode cX7_apply 23 = .ok (.aload_n 0, 1) := by decide +kernel
theorem dX7_apply_24 : decode cX7_apply 24 = .ok (.getfield 90, 3) := by decide +kernel
theorem dX7_apply_27 : decode cX7_apply 27 = .ok (.invokevirtual 106, 3) := by decide +kernel
theorem dX7_apply_30 : decode cX7_apply 30 = .ok (.aload_n 0, 1) := by decide +kernel
theorem dX7_apply_31 : decode cX7_apply 31 = .ok (.iload_n 1, 1) := by decide +kernel
theorem dX7_apply_32 : decode cX7_apply 32 = .ok (.invokevirtual 113, 3) := by decide +kernel
theorem dX7_apply_35 : decode cX7_apply 35 = .ok (.aload_n 0, 1) := by decide +kernel
theorem dX7_apply_36 : decode cX7_apply 36 = .ok (.aload_n 0, 1) := by decide +kernel
theorem dX7_apply_37 : decode cX7_apply 37 = .ok (.invokevirtual 100, 3) := by decide +kernel
theorem dX7_apply_40 : decode cX7_apply 40 = .ok (.putfield 90, 3) := by decide +kernel
theorem dX7_apply_43 : decode cX7_apply 43 = .ok (.return_, 1) := by decide +kernel
theorem dX7_actBack_0 : decode cX7_actBack 0 = .ok (.iconst 0, 1) := by decide +kernel
theorem dX7_actBack_1 : decode cX7_actBack 1 = .ok (.istore_n 2, 1) := by decide +kernel
theorem dX7_actBack_2 : decode cX7_actBack 2 = .ok (.iload_n 2, 1) := by decide +kernel
theorem dX7_actBack_3 : decode cX7_actBack 3 = .ok (.aload_n 0, 1) := by decide +kernel
theorem dX7_actBack_4 : decode cX7_actBack 4 = .ok (.getfield 83, 3) := by decide +kernel
theorem dX7_actBack_7 : decode cX7_actBack 7 = .ok (.if_icmp .ge 78, 3) := by decide +kernel
theorem dX7_actBack_10 : decode cX7_actBack 10 = .ok (.iconst 0, 1) := by decide +kernel
theorem dX7_actBack_11 : decode cX7_actBack 11 = .ok (.istore_n 3, 1) := by decide +kernel
theorem dX7_actBack_12 : decode cX7_actBack 12 = .ok (.aload_n 0, 1) := by decide +kernel
theorem dX7_actBack_13 : decode cX7_actBack 13 = .ok (.getfield 7, 3) := by decide +kernel
theorem dX7_actBack_16 : decode cX7_actBack 16 = .ok (.bipush 8, 2) := by decide +kernel
theorem dX7_actBack_18 : decode cX7_actBack 18 = .ok (.iload_n 1, 1) := by decide +kernel
theorem dX7_actBack_19 : decode cX7_actBack 19 = .ok (.imul, 1) := by decide +kernel
theorem dX7_actBack_20 : decode cX7_actBack 20 = .ok (.iload_n 3, 1) := by decide +kernel
theorem dX7_actBack_21 : decode cX7_actBack 21 = .ok (.iadd, 1) := by decide +kernel
theorem dX7_actBack_22 : decode cX7_actBack 22 = .ok (.iaload, 1) := by decide +kernel
theorem dX7_actBack_23 : decode cX7_actBack 23 = .ok (.aload_n 0, 1) := by decide +kernel
theorem dX7_actBack_24 : decode cX7_actBack 24 = .ok (.getfield 23, 3) := by decide +kernel
theorem dX7_actBack_27 : decode cX7_actBack 27 = .ok (.iload_n 2, 1) := by decide +kernel
theorem dX7_actBack_28 : decode cX7_actBack 28 = .ok (.iaload, 1) := by decide +kernel
theorem dX7_actBack_29 : decode cX7_actBack 29 = .ok (.if_icmp .eq 9, 3) := by decide +kernel
theorem dX7_actBack_32 : decode cX7_actBack 32 = .ok (.iinc 3 1, 3) := by decide +kernel
theorem dX7_actBack_35 : decode cX7_actBack 35 = .ok (.goto (-23), 3) := by decide +kernel
theorem dX7_actBack_38 : decode cX7_actBack 38 = .ok (.aload_n 0, 1) := by decide +kernel
theorem dX7_actBack_39 : decode cX7_actBack 39 = .ok (.getfield 23, 3) := by decide +kernel
theorem dX7_actBack_42 : decode cX7_actBack 42 = .ok (.iload_n 2, 1) := by decide +kernel
theorem dX7_actBack_43 : decode cX7_actBack 43 = .ok (.iload_n 3, 1) := by decide +kernel
theorem dX7_actBack_44 : decode cX7_actBack 44 = .ok (.iastore, 1) := by decide +kernel
theorem dX7_actBack_45 : decode cX7_actBack 45 = .ok (.aload_n 0, 1) := by decide +kernel
theorem dX7_actBack_46 : decode cX7_actBack 46 = .ok (.getfield 26, 3) := by decide +kernel
theorem dX7_actBack_49 : decode cX7_actBack 49 = .ok (.iload_n 2, 1) := by decide +kernel
theorem dX7_actBack_50 : decode cX7_actBack 50 = .ok (.aload_n 0, 1) := by decide +kernel
theorem dX7_actBack_51 : decode cX7_actBack 51 = .ok (.getfield 26, 3) := by decide +kernel
theorem dX7_actBack_54 : decode cX7_actBack 54 = .ok (.iload_n 2, 1) := by decide +kernel
theorem dX7_actBack_55 : decode cX7_actBack 55 = .ok (.iaload, 1) := by decide +kernel
theorem dX7_actBack_56 : decode cX7_actBack 56 = .ok (.aload_n 0, 1) := by decide +kernel
theorem dX7_actBack_57 : decode cX7_actBack 57 = .ok (.getfield 55, 3) := by decide +kernel
theorem dX7_actBack_60 : decode cX7_actBack 60 = .ok (.iadd, 1) := by decide +kernel
theorem dX7_actBack_61 : decode cX7_actBack 61 = .ok (.aload_n 0, 1) := by decide +kernel
theorem dX7_actBack_62 : decode cX7_actBack 62 = .ok (.getfield 13, 3) := by decide +kernel
theorem dX7_actBack_65 : decode cX7_actBack 65 = .ok (.bipush 8, 2) := by decide +kernel
theorem dX7_actBack_67 : decode cX7_actBack 67 = .ok (.iload_n 1, 1) := by decide +kernel
theorem dX7_actBack_68 : decode cX7_actBack 68 = .ok (.imul, 1) := by decide +kernel
theorem dX7_actBack_69 : decode cX7_actBack 69 = .ok (.iload_n 3, 1) := by decide +kernel
theorem dX7_actBack_70 : decode cX7_actBack 70 = .ok (.iadd, 1) := by decide +kernel
theorem dX7_actBack_71 : decode cX7_actBack 71 = .ok (.iaload, 1) := by decide +kernel
theorem dX7_actBack_72 : decode cX7_actBack 72 = .ok (.isub, 1) := by decide +kernel
theorem dX7_actBack_73 : decode cX7_actBack 73 = .ok (.aload_n 0, 1) := by decide +kernel
theorem dX7_actBack_74 : decode cX7_actBack 74 = .ok (.getfield 55, 3) := by decide +kernel
theorem dX7_actBack_77 : decode cX7_actBack 77 = .ok (.irem, 1) := by decide +kernel
theorem dX7_actBack_78 : decode cX7_actBack 78 = .ok (.iastore, 1) := by decide +kernel
theorem dX7_actBack_79 : decode cX7_actBack 79 = .ok (.iinc 2 1, 3) := by decide +kernel
theorem dX7_actBack_82 : decode cX7_actBack 82 = .ok (.goto (-80), 3) := by decide +kernel
theorem dX7_actBack_85 : decode cX7_actBack 85 = .ok (.return_, 1) := by decide +kernel
set_option maxRecDepth 20000 in
theorem ggX7_times_X7_orderOf : GoodIn wsX7_times wsX7_orderOf := goodIn_ca (goodIn_r _ [5, 6, 7, 8, 9, 10, 11, 12, 13, 14, 15, 16, 17, 18, 19, 20, 21, 22, 23, 24, 25, 26, 27, 28, 29, 30, 31, 32] (by decide +kernel) (by decide +kernel)) (goodIn_sub (fun _ h => List.mem_cons_of_mem _ (List.mem_append_right _ h)) (by decide +kernel))
set_option maxRecDepth 20000 in
theorem gX7_times_X7_orderOf : GoodIn wsX7_times (wsV RX7 79 RX7 yX7_orderOf wsX7_orderOf) := goodIn_app (goodIn_of _ (by decide +kernel)) ggX7_times_X7_orderOf
theorem dX7_times_0 : decode cX7_times 0 = .ok (.iload_n 2, 1) := by decide +kernel
theorem dX7_times_1 : decode cX7_times 1 = .ok (.ifCond .ne 7, 3) := by decide +kernel
theorem dX7_times_4 : decode cX7_times 4 = .ok (.iconst 1, 1) := by decide +kernel
theorem dX7_times_5 : decode cX7_times 5 = .ok (.goto 10, 3) := by decide +kernel
theorem dX7_times_8 : decode cX7_times 8 = .ok (.aload_n 0, 1) := by decide +kernel
theorem dX7_times_9 : decode cX7_times 9 = .ok (.iload_n 1, 1) := by decide +kernel
theorem dX7_times_10 : decode cX7_times 10 = .ok (.invokevirtual 79, 3) := by decide +kernel
theorem dX7_times_13 : decode cX7_times 13 = .ok (.iconst 1, 1) := by decide +kernel
theorem dX7_times_14 : decode cX7_times 14 = .ok (.isub, 1) := by decide +kernel
theorem dX7_times_15 : decode cX7_times 15 = .ok (.ireturn, 1) := by decide +kernel
set_option maxRecDepth 20000 in
theorem ggX7_build_X7_countStates : GoodIn wsX7_build wsX7_countStates := goodIn_r _ [12, 13, 14, 15, 49, 50, 51, 52, 53, 54, 55, 56, 57, 58, 59, 60, 61, 62, 63, 64, 65, 66, 67, 68, 69, 70, 71] (by decide +kernel) (by decide +kernel)
set_option maxRecDepth 20000 in
theorem gX7_build_X7_countStates : GoodIn wsX7_build (wsV RX7 93 RX7 yX7_countStates wsX7_countStates) := goodIn_app (goodIn_of _ (by decide +kernel)) ggX7_build_X7_countStates
set_option maxRecDepth 20000 in
theorem ggX7_build_X7_goal : GoodIn wsX7_build wsX7_goal := goodIn_ca (goodIn_r _ [19, 13, 20, 21, 22, 23, 24, 25, 11, 26, 14, 15, 27, 28, 29, 30, 49, 50, 51, 52, 53, 54, 55, 56, 57, 58, 59, 60, 61, 62, 63, 64, 65, 66, 67, 68, 69, 70, 71] (by decide +kernel) (by decide +kernel)) (goodIn_sub (fun _ h => List.mem_cons_of_mem _ (List.mem_append_right _ h)) (by decide +kernel))
set_option maxRecDepth 20000 in
theorem gX7_build_X7_goal : GoodIn wsX7_build (wsV RX7 86 RX7 yX7_goal wsX7_goal) := goodIn_app (goodIn_of _ (by decide +kernel)) ggX7_build_X7_goal
set_option maxRecDepth 20000 in
theorem ggX7_build_X7_times : GoodIn wsX7_build wsX7_times := goodIn_ca (goodIn_r _ [34, 35, 36, 37, 11, 38, 14, 39, 40, 15, 49, 50, 51, 52, 53, 54, 55, 56, 57, 58, 59, 60, 61, 62, 63, 64, 65, 66, 67, 68, 69, 70, 71] (by decide +kernel) (by decide +kernel)) (goodIn_sub (fun _ h => List.mem_cons_of_mem _ (List.mem_append_right _ h)) (by decide +kernel))
set_option maxRecDepth 20000 in
theorem gX7_build_X7_times : GoodIn wsX7_build (wsV RX7 119 RX7 yX7_times wsX7_times) := goodIn_app (goodIn_of _ (by decide +kernel)) ggX7_build_X7_times
set_option maxRecDepth 20000 in
theorem ggX7_build_X7_take : GoodIn wsX7_build wsX7_take := goodIn_ca (goodIn_r _ [44, 13, 22, 15, 20, 14, 27, 28, 29, 11, 30, 49, 50, 51, 52, 53, 54, 55, 56, 57, 58, 59, 60, 61, 62, 63, 64, 65, 66, 67, 68, 69, 70, 71] (by decide +kernel) (by decide +kernel)) (goodIn_sub (fun _ h => List.mem_cons_of_mem _ (List.mem_append_right _ h)) (by decide +kernel))
set_option maxRecDepth 20000 in
theorem gX7_build_X7_take : GoodIn wsX7_build (wsV RX7 106 RX7 yX7_take wsX7_take) := goodIn_app (goodIn_of _ (by decide +kernel)) ggX7_build_X7_take
set_option maxRecDepth 20000 in
theorem ggX7_build_X7_actBack : GoodIn wsX7_build wsX7_actBack := goodIn_ca (goodIn_r _ [48, 13, 40, 20, 22, 15, 39, 49, 50, 51, 52, 53, 54, 55, 56, 57, 58, 59, 60, 61, 62, 63, 64, 65, 66, 67, 68, 69, 70, 71] (by decide +kernel) (by decide +kernel)) (goodIn_sub (fun _ h => List.mem_cons_of_mem _ (List.mem_append_right _ h)) (by decide +kernel))
set_option maxRecDepth 20000 in
theorem gX7_build_X7_actBack : GoodIn wsX7_build (wsV RX7 123 RX7 yX7_actBack wsX7_actBack) := goodIn_app (goodIn_of _ (by decide +kernel)) ggX7_build_X7_actBack
set_option maxRecDepth 20000 in
theorem ggX7_build_X7_numberOf : GoodIn wsX7_build wsX7_numberOf := goodIn_ca (goodIn_r _ [26, 13, 20, 14, 15, 22, 27, 28, 29, 11, 30, 49, 50, 51, 52, 53, 54, 55, 56, 57, 58, 59, 60, 61, 62, 63, 64, 65, 66, 67, 68, 69, 70, 71] (by decide +kernel) (by decide +kernel)) (goodIn_sub (fun _ h => List.mem_cons_of_mem _ (List.mem_append_right _ h)) (by decide +kernel))
set_option maxRecDepth 20000 in
theorem gX7_build_X7_numberOf : GoodIn wsX7_build (wsV RX7 100 RX7 yX7_numberOf wsX7_numberOf) := goodIn_app (goodIn_of _ (by decide +kernel)) ggX7_build_X7_numberOf
theorem dX7_build_0 : decode cX7_build 0 = .ok (.aload_n 0, 1) := by decide +kernel
theorem dX7_build_1 : decode cX7_build 1 = .ok (.iconst 0, 1) := by decide +kernel
theorem dX7_build_2 : decode cX7_build 2 = .ok (.putfield 58, 3) := by decide +kernel
theorem dX7_build_5 : decode cX7_build 5 = .ok (.iload_n 1, 1) := by decide +kernel
theorem dX7_build_6 : decode cX7_build 6 = .ok (.ifCond .lt 8, 3) := by decide +kernel
theorem dX7_build_9 : decode cX7_build 9 = .ok (.iload_n 1, 1) := by decide +kernel
theorem dX7_build_10 : decode cX7_build 10 = .ok (.iconst 1, 1) := by decide +kernel
theorem dX7_build_11 : decode cX7_build 11 = .ok (.if_icmp .le 5, 3) := by decide +kernel
theorem dX7_build_14 : decode cX7_build 14 = .ok (.iconst (-1), 1) := by decide +kernel
theorem dX7_build_15 : decode cX7_build 15 = .ok (.ireturn, 1) := by decide +kernel
theorem dX7_build_16 : decode cX7_build 16 = .ok (.aload_n 0, 1) := by decide +kernel
theorem dX7_build_17 : decode cX7_build 17 = .ok (.aload_n 0, 1) := by decide +kernel
theorem dX7_build_18 : decode cX7_build 18 = .ok (.invokevirtual 93, 3) := by decide +kernel
theorem dX7_build_21 : decode cX7_build 21 = .ok (.putfield 116, 3) := by decide +kernel
theorem dX7_build_24 : decode cX7_build 24 = .ok (.iconst 0, 1) := by decide +kernel
theorem dX7_build_25 : decode cX7_build 25 = .ok (.istore_n 2, 1) := by decide +kernel
theorem dX7_build_26 : decode cX7_build 26 = .ok (.iload_n 2, 1) := by decide +kernel
theorem dX7_build_27 : decode cX7_build 27 = .ok (.aload_n 0, 1) := by decide +kernel
theorem dX7_build_28 : decode cX7_build 28 = .ok (.getfield 116, 3) := by decide +kernel
theorem dX7_build_31 : decode cX7_build 31 = .ok (.if_icmp .ge 16, 3) := by decide +kernel
theorem dX7_build_34 : decode cX7_build 34 = .ok (.aload_n 0, 1) := by decide +kernel
theorem dX7_build_35 : decode cX7_build 35 = .ok (.getfield 30, 3) := by decide +kernel
theorem dX7_build_38 : decode cX7_build 38 = .ok (.iload_n 2, 1) := by decide +kernel
theorem dX7_build_39 : decode cX7_build 39 = .ok (.iconst (-1), 1) := by decide +kernel
theorem dX7_build_40 : decode cX7_build 40 = .ok (.iastore, 1) := by decide +kernel
theorem dX7_build_41 : decode cX7_build 41 = .ok (.iinc 2 1, 3) := by decide +kernel
theorem dX7_build_44 : decode cX7_build 44 = .ok (.goto (-18), 3) := by decide +kernel
theorem dX7_build_47 : decode cX7_build 47 = .ok (.iconst 1, 1) := by decide +kernel
theorem dX7_build_48 : decode cX7_build 48 = .ok (.istore_n 2, 1) := by decide +kernel
theorem dX7_build_49 : decode cX7_build 49 = .ok (.aload_n 0, 1) := by decide +kernel
theorem dX7_build_50 : decode cX7_build 50 = .ok (.getfield 33, 3) := by decide +kernel
theorem dX7_build_53 : decode cX7_build 53 = .ok (.iconst 0, 1) := by decide +kernel
theorem dX7_build_54 : decode cX7_build 54 = .ok (.aload_n 0, 1) := by decide +kernel
theorem dX7_build_55 : decode cX7_build 55 = .ok (.invokevirtual 86, 3) := by decide +kernel
theorem dX7_build_58 : decode cX7_build 58 = .ok (.iastore, 1) := by decide +kernel
theorem dX7_build_59 : decode cX7_build 59 = .ok (.aload_n 0, 1) := by decide +kernel
theorem dX7_build_60 : decode cX7_build 60 = .ok (.getfield 30, 3) := by decide +kernel
theorem dX7_build_63 : decode cX7_build 63 = .ok (.aload_n 0, 1) := by decide +kernel
theorem dX7_build_64 : decode cX7_build 64 = .ok (.getfield 33, 3) := by decide +kernel
theorem dX7_build_67 : decode cX7_build 67 = .ok (.iconst 0, 1) := by decide +kernel
theorem dX7_build_68 : decode cX7_build 68 = .ok (.iaload, 1) := by decide +kernel
theorem dX7_build_69 : decode cX7_build 69 = .ok (.iconst 0, 1) := by decide +kernel
theorem dX7_build_70 : decode cX7_build 70 = .ok (.iastore, 1) := by decide +kernel
theorem dX7_build_71 : decode cX7_build 71 = .ok (.iconst 0, 1) := by decide +kernel
theorem dX7_build_72 : decode cX7_build 72 = .ok (.istore_n 3, 1) := by decide +kernel
theorem dX7_build_73 : decode cX7_build 73 = .ok (.iconst 0, 1) := by decide +kernel
theorem dX7_build_74 : decode cX7_build 74 = .ok (.istore 4, 2) := by decide +kernel
theorem dX7_build_76 : decode cX7_build 76 = .ok (.iload 4, 2) := by decide +kernel
theorem dX7_build_78 : decode cX7_build 78 = .ok (.iload_n 2, 1) := by decide +kernel
theorem dX7_build_79 : decode cX7_build 79 = .ok (.if_icmp .ge 122, 3) := by decide +kernel
theorem dX7_build_82 : decode cX7_build 82 = .ok (.aload_n 0, 1) := by decide +kernel
theorem dX7_build_83 : decode cX7_build 83 = .ok (.getfield 30, 3) := by decide +kernel
theorem dX7_build_86 : decode cX7_build 86 = .ok (.aload_n 0, 1) := by decide +kernel
theorem dX7_build_87 : decode cX7_build 87 = .ok (.getfield 33, 3) := by decide +kernel
theorem dX7_build_90 : decode cX7_build 90 = .ok (.iload 4, 2) := by decide +kernel
theorem dX7_build_92 : decode cX7_build 92 = .ok (.iaload, 1) := by decide +kernel
theorem dX7_build_93 : decode cX7_build 93 = .ok (.iaload, 1) := by decide +kernel
theorem dX7_build_94 : decode cX7_build 94 = .ok (.istore_n 3, 1) := by decide +kernel
theorem dX7_build_95 : decode cX7_build 95 = .ok (.iconst 0, 1) := by decide +kernel
theorem dX7_build_96 : decode cX7_build 96 = .ok (.istore 5, 2) := by decide +kernel
theorem dX7_build_98 : decode cX7_build 98 = .ok (.iload 5, 2) := by decide +kernel
theorem dX7_build_100 : decode cX7_build 100 = .ok (.aload_n 0, 1) := by decide +kernel
theorem dX7_build_101 : decode cX7_build 101 = .ok (.getfield 61, 3) := by decide +kernel
theorem dX7_build_104 : decode cX7_build 104 = .ok (.if_icmp .ge 91, 3) := by decide +kernel
theorem dX7_build_107 : decode cX7_build 107 = .ok (.aload_n 0, 1) := by decide +kernel
theorem dX7_build_108 : decode cX7_build 108 = .ok (.iload 5, 2) := by decide +kernel
theorem dX7_build_110 : decode cX7_build 110 = .ok (.iload_n 1, 1) := by decide +kernel
theorem dX7_build_111 : decode cX7_build 111 = .ok (.invokevirtual 119, 3) := by decide +kernel
theorem dX7_build_114 : decode cX7_build 114 = .ok (.istore 6, 2) := by decide +kernel
theorem dX7_build_116 : decode cX7_build 116 = .ok (.aload_n 0, 1) := by decide +kernel
theorem dX7_build_117 : decode cX7_build 117 = .ok (.aload_n 0, 1) := by decide +kernel
theorem dX7_build_118 : decode cX7_build 118 = .ok (.getfield 33, 3) := by decide +kernel
theorem dX7_build_121 : decode cX7_build 121 = .ok (.iload 4, 2) := by decide +kernel
theorem dX7_build_123 : decode cX7_build 123 = .ok (.iaload, 1) := by decide +kernel
theorem dX7_build_124 : decode cX7_build 124 = .ok (.invokevirtual 106, 3) := by decide +kernel
theorem dX7_build_127 : decode cX7_build 127 = .ok (.iconst 0, 1) := by decide +kernel
theorem dX7_build_128 : decode cX7_build 128 = .ok (.istore 7, 2) := by decide +kernel
theorem dX7_build_130 : decode cX7_build 130 = .ok (.iload 7, 2) := by decide +kernel
theorem dX7_build_132 : decode cX7_build 132 = .ok (.iload 6, 2) := by decide +kernel
theorem dX7_build_134 : decode cX7_build 134 = .ok (.if_icmp .ge 55, 3) := by decide +kernel
theorem dX7_build_137 : decode cX7_build 137 = .ok (.aload_n 0, 1) := by decide +kernel
theorem dX7_build_138 : decode cX7_build 138 = .ok (.iload 5, 2) := by decide +kernel
theorem dX7_build_140 : decode cX7_build 140 = .ok (.invokevirtual 123, 3) := by decide +kernel
theorem dX7_build_143 : decode cX7_build 143 = .ok (.aload_n 0, 1) := by decide +kernel
theorem dX7_build_144 : decode cX7_build 144 = .ok (.invokevirtual 100, 3) := by decide +kernel
theorem dX7_build_147 : decode cX7_build 147 = .ok (.istore 8, 2) := by decide +kernel
theorem dX7_build_149 : decode cX7_build 149 = .ok (.aload_n 0, 1) := by decide +kernel
theorem dX7_build_150 : decode cX7_build 150 = .ok (.getfield 30, 3) := by decide +kernel
theorem dX7_build_153 : decode cX7_build 153 = .ok (.iload 8, 2) := by decide +kernel
theorem dX7_build_155 : decode cX7_build 155 = .ok (.iaload, 1) := by decide +kernel
theorem dX7_build_156 : decode cX7_build 156 = .ok (.ifCond .lt 6, 3) := by decide +kernel
theorem dX7_build_159 : decode cX7_build 159 = .ok (.goto 24, 3) := by decide +kernel
theorem dX7_build_162 : decode cX7_build 162 = .ok (.aload_n 0, 1) := by decide +kernel
theorem dX7_build_163 : decode cX7_build 163 = .ok (.getfield 30, 3) := by decide +kernel
theorem dX7_build_166 : decode cX7_build 166 = .ok (.iload 8, 2) := by decide +kernel
theorem dX7_build_168 : decode cX7_build 168 = .ok (.iload_n 3, 1) := by decide +kernel
theorem dX7_build_169 : decode cX7_build 169 = .ok (.iconst 1, 1) := by decide +kernel
theorem dX7_build_170 : decode cX7_build 170 = .ok (.iadd, 1) := by decide +kernel
theorem dX7_build_171 : decode cX7_build 171 = .ok (.iastore, 1) := by decide +kernel
theorem dX7_build_172 : decode cX7_build 172 = .ok (.aload_n 0, 1) := by decide +kernel
theorem dX7_build_173 : decode cX7_build 173 = .ok (.getfield 33, 3) := by decide +kernel
theorem dX7_build_176 : decode cX7_build 176 = .ok (.iload_n 2, 1) := by decide +kernel
theorem dX7_build_177 : decode cX7_build 177 = .ok (.iload 8, 2) := by decide +kernel
theorem dX7_build_179 : decode cX7_build 179 = .ok (.iastore, 1) := by decide +kernel
theorem dX7_build_180 : decode cX7_build 180 = .ok (.iinc 2 1, 3) := by decide +kernel
theorem dX7_build_183 : decode cX7_build 183 = .ok (.iinc 7 1, 3) := by decide +kernel
theorem dX7_build_186 : decode cX7_build 186 = .ok (.goto (-56), 3) := by decide +kernel
theorem dX7_build_189 : decode cX7_build 189 = .ok (.iinc 5 1, 3) := by decide +kernel
theorem dX7_build_192 : decode cX7_build 192 = .ok (.goto (-94), 3) := by decide +kernel
theorem dX7_build_195 : decode cX7_build 195 = .ok (.iinc 4 1, 3) := by decide +kernel
theorem dX7_build_198 : decode cX7_build 198 = .ok (.goto (-122), 3) := by decide +kernel
theorem dX7_build_201 : decode cX7_build 201 = .ok (.aload_n 0, 1) := by decide +kernel
theorem dX7_build_202 : decode cX7_build 202 = .ok (.iconst 1, 1) := by decide +kernel
theorem dX7_build_203 : decode cX7_build 203 = .ok (.putfield 64, 3) := by decide +kernel
theorem dX7_build_206 : decode cX7_build 206 = .ok (.aload_n 0, 1) := by decide +kernel
theorem dX7_build_207 : decode cX7_build 207 = .ok (.iload_n 1, 1) := by decide +kernel
theorem dX7_build_208 : decode cX7_build 208 = .ok (.putfield 126, 3) := by decide +kernel
theorem dX7_build_211 : decode cX7_build 211 = .ok (.iload_n 3, 1) := by decide +kernel
theorem dX7_build_212 : decode cX7_build 212 = .ok (.ireturn, 1) := by decide +kernel
set_option maxRecDepth 20000 in
theorem ggX7_value_X7_isState : GoodIn wsX7_value wsX7_isState := goodIn_r _ [7, 8, 9, 10, 6, 11, 12, 13, 14, 20, 21, 22, 23, 24, 25, 26, 27, 28, 29, 30, 31, 32, 33, 34, 35, 36, 37, 38, 39, 40, 41, 42] (by decide +kernel) (by decide +kernel)
set_option maxRecDepth 20000 in
theorem gX7_value_X7_isState : GoodIn wsX7_value (wsV RX7 103 RX7 yX7_isState wsX7_isState) := goodIn_app (goodIn_of _ (by decide +kernel)) ggX7_value_X7_isState
set_option maxRecDepth 20000 in
theorem ggX7_value_X7_throwsIf : GoodIn wsX7_value wsX7_throwsIf := goodIn_r _ [18, 19, 20, 21, 22, 23, 24, 25, 26, 27, 28, 29, 30, 31, 32, 33, 34, 35, 36, 37, 38, 39, 40, 41, 42] (by decide +kernel) (by decide +kernel)
set_option maxRecDepth 20000 in
theorem gX7_value_X7_throwsIf : GoodIn wsX7_value (wsV RX7 75 RX7 yX7_throwsIf wsX7_throwsIf) := goodIn_app (goodIn_of _ (by decide +kernel)) ggX7_value_X7_throwsIf
theorem dX7_value_0 : decode cX7_value 0 = .ok (.aload_n 0, 1) := by decide +kernel
theorem dX7_value_1 : decode cX7_value 1 = .ok (.iconst 1, 1) := by decide +kernel
theorem dX7_value_2 : decode cX7_value 2 = .ok (.aload_n 0, 1) := by decide +kernel
theorem dX7_value_3 : decode cX7_value 3 = .ok (.iload_n 1, 1) := by decide +kernel
theorem dX7_value_4 : decode cX7_value 4 = .ok (.invokevirtual 103, 3) := by decide +kernel
theorem dX7_value_7 : decode cX7_value 7 = .ok (.ifCond .ne 7, 3) := by decide +kernel
theorem dX7_value_10 : decode cX7_value 10 = .ok (.iconst 1, 1) := by decide +kernel
theorem dX7_value_11 : decode cX7_value 11 = .ok (.goto 4, 3) := by decide +kernel
theorem dX7_value_14 : decode cX7_value 14 = .ok (.iconst 0, 1) := by decide +kernel
theorem dX7_value_15 : decode cX7_value 15 = .ok (.invokevirtual 75, 3) := by decide +kernel
theorem dX7_value_18 : decode cX7_value 18 = .ok (.ifCond .eq 5, 3) := by decide +kernel
theorem dX7_value_21 : decode cX7_value 21 = .ok (.iconst 0, 1) := by decide +kernel
theorem dX7_value_22 : decode cX7_value 22 = .ok (.ireturn, 1) := by decide +kernel
theorem dX7_value_23 : decode cX7_value 23 = .ok (.aload_n 0, 1) := by decide +kernel
theorem dX7_value_24 : decode cX7_value 24 = .ok (.getfield 64, 3) := by decide +kernel
theorem dX7_value_27 : decode cX7_value 27 = .ok (.ifCond .eq 12, 3) := by decide +kernel
theorem dX7_value_30 : decode cX7_value 30 = .ok (.aload_n 0, 1) := by decide +kernel
theorem dX7_value_31 : decode cX7_value 31 = .ok (.getfield 30, 3) := by decide +kernel
theorem dX7_value_34 : decode cX7_value 34 = .ok (.iload_n 1, 1) := by decide +kernel
theorem dX7_value_35 : decode cX7_value 35 = .ok (.iaload, 1) := by decide +kernel
theorem dX7_value_36 : decode cX7_value 36 = .ok (.goto 5, 3) := by decide +kernel
theorem dX7_value_39 : decode cX7_value 39 = .ok (.bipush (-2), 2) := by decide +kernel
theorem dX7_value_41 : decode cX7_value 41 = .ok (.ireturn, 1) := by decide +kernel
theorem dX7_count_0 : decode cX7_count 0 = .ok (.aload_n 0, 1) := by decide +kernel
theorem dX7_count_1 : decode cX7_count 1 = .ok (.iconst 0, 1) := by decide +kernel
theorem dX7_count_2 : decode cX7_count 2 = .ok (.putfield 58, 3) := by decide +kernel
theorem dX7_count_5 : decode cX7_count 5 = .ok (.aload_n 0, 1) := by decide +kernel
theorem dX7_count_6 : decode cX7_count 6 = .ok (.getfield 64, 3) := by decide +kernel
theorem dX7_count_9 : decode cX7_count 9 = .ok (.ifCond .ne 5, 3) := by decide +kernel
theorem dX7_count_12 : decode cX7_count 12 = .ok (.iconst (-1), 1) := by decide +kernel
theorem dX7_count_13 : decode cX7_count 13 = .ok (.ireturn, 1) := by decide +kernel
theorem dX7_count_14 : decode cX7_count 14 = .ok (.iconst 0, 1) := by decide +kernel
theorem dX7_count_15 : decode cX7_count 15 = .ok (.istore_n 2, 1) := by decide +kernel
theorem dX7_count_16 : decode cX7_count 16 = .ok (.iconst 0, 1) := by decide +kernel
theorem dX7_count_17 : decode cX7_count 17 = .ok (.istore_n 3, 1) := by decide +kernel
theorem dX7_count_18 : decode cX7_count 18 = .ok (.iload_n 3, 1) := by decide +kernel
theorem dX7_count_19 : decode cX7_count 19 = .ok (.aload_n 0, 1) := by decide +kernel
theorem dX7_count_20 : decode cX7_count 20 = .ok (.getfield 116, 3) := by decide +kernel
theorem dX7_count_23 : decode cX7_count 23 = .ok (.if_icmp .ge 27, 3) := by decide +kernel
theorem dX7_count_26 : decode cX7_count 26 = .ok (.iload_n 2, 1) := by decide +kernel
theorem dX7_count_27 : decode cX7_count 27 = .ok (.aload_n 0, 1) := by decide +kernel
theorem dX7_count_28 : decode cX7_count 28 = .ok (.getfield 30, 3) := by decide +kernel
theorem dX7_count_31 : decode cX7_count 31 = .ok (.iload_n 3, 1) := by decide +kernel
theorem dX7_count_32 : decode cX7_count 32 = .ok (.iaload, 1) := by decide +kernel
theorem dX7_count_33 : decode cX7_count 33 = .ok (.iload_n 1, 1) := by decide +kernel
theorem dX7_count_34 : decode cX7_count 34 = .ok (.if_icmp .ne 7, 3) := by decide +kernel
theorem dX7_count_37 : decode cX7_count 37 = .ok (.iconst 1, 1) := by decide +kernel
theorem dX7_count_38 : decode cX7_count 38 = .ok (.goto 4, 3) := by decide +kernel
theorem dX7_count_41 : decode cX7_count 41 = .ok (.iconst 0, 1) := by decide +kernel
theorem dX7_count_42 : decode cX7_count 42 = .ok (.iadd, 1) := by decide +kernel
theorem dX7_count_43 : decode cX7_count 43 = .ok (.istore_n 2, 1) := by decide +kernel
theorem dX7_count_44 : decode cX7_count 44 = .ok (.iinc 3 1, 3) := by decide +kernel
theorem dX7_count_47 : decode cX7_count 47 = .ok (.goto (-29), 3) := by decide +kernel
theorem dX7_count_50 : decode cX7_count 50 = .ok (.iload_n 2, 1) := by decide +kernel
theorem dX7_count_51 : decode cX7_count 51 = .ok (.ireturn, 1) := by decide +kernel
theorem dX7_bitsOf_0 : decode cX7_bitsOf 0 = .ok (.aload_n 0, 1) := by decide +kernel
theorem dX7_bitsOf_1 : decode cX7_bitsOf 1 = .ok (.getfield 30, 3) := by decide +kernel
theorem dX7_bitsOf_4 : decode cX7_bitsOf 4 = .ok (.iload_n 1, 1) := by decide +kernel
theorem dX7_bitsOf_5 : decode cX7_bitsOf 5 = .ok (.iaload, 1) := by decide +kernel
theorem dX7_bitsOf_6 : decode cX7_bitsOf 6 = .ok (.istore_n 3, 1) := by decide +kernel
theorem dX7_bitsOf_7 : decode cX7_bitsOf 7 = .ok (.iload_n 2, 1) := by decide +kernel
theorem dX7_bitsOf_8 : decode cX7_bitsOf 8 = .ok (.iconst 2, 1) := by decide +kernel
theorem dX7_bitsOf_9 : decode cX7_bitsOf 9 = .ok (.if_icmp .ne 15, 3) := by decide +kernel
theorem dX7_bitsOf_12 : decode cX7_bitsOf 12 = .ok (.iload_n 3, 1) := by decide +kernel
theorem dX7_bitsOf_13 : decode cX7_bitsOf 13 = .ok (.ifCond .ge 7, 3) := by decide +kernel
theorem dX7_bitsOf_16 : decode cX7_bitsOf 16 = .ok (.iconst 3, 1) := by decide +kernel
theorem dX7_bitsOf_17 : decode cX7_bitsOf 17 = .ok (.goto 6, 3) := by decide +kernel
theorem dX7_bitsOf_20 : decode cX7_bitsOf 20 = .ok (.iload_n 3, 1) := by decide +kernel
theorem dX7_bitsOf_21 : decode cX7_bitsOf 21 = .ok (.iconst 3, 1) := by decide +kernel
theorem dX7_bitsOf_22 : decode cX7_bitsOf 22 = .ok (.irem, 1) := by decide +kernel
theorem dX7_bitsOf_23 : decode cX7_bitsOf 23 = .ok (.ireturn, 1) := by decide +kernel
theorem dX7_bitsOf_24 : decode cX7_bitsOf 24 = .ok (.iload_n 3, 1) := by decide +kernel
theorem dX7_bitsOf_25 : decode cX7_bitsOf 25 = .ok (.ifCond .ge 8, 3) := by decide +kernel
theorem dX7_bitsOf_28 : decode cX7_bitsOf 28 = .ok (.bipush 15, 2) := by decide +kernel
theorem dX7_bitsOf_30 : decode cX7_bitsOf 30 = .ok (.goto 15, 3) := by decide +kernel
theorem dX7_bitsOf_33 : decode cX7_bitsOf 33 = .ok (.iload_n 3, 1) := by decide +kernel
theorem dX7_bitsOf_34 : decode cX7_bitsOf 34 = .ok (.bipush 14, 2) := by decide +kernel
theorem dX7_bitsOf_36 : decode cX7_bitsOf 36 = .ok (.if_icmp .le 8, 3) := by decide +kernel
theorem dX7_bitsOf_39 : decode cX7_bitsOf 39 = .ok (.bipush 14, 2) := by decide +kernel
theorem dX7_bitsOf_41 : decode cX7_bitsOf 41 = .ok (.goto 4, 3) := by decide +kernel
theorem dX7_bitsOf_44 : decode cX7_bitsOf 44 = .ok (.iload_n 3, 1) := by decide +kernel
theorem dX7_bitsOf_45 : decode cX7_bitsOf 45 = .ok (.ireturn, 1) := by decide +kernel
set_option maxRecDepth 20000 in
theorem ggX7_packed_X7_throwsIf : GoodIn wsX7_packed wsX7_throwsIf := goodIn_r _ [8, 9, 15, 16, 17, 18, 19, 20, 21, 22, 23, 24, 25, 26, 27, 28, 29, 30, 31, 32, 33, 34, 35, 36, 37] (by decide +kernel) (by decide +kernel)
set_option maxRecDepth 20000 in
theorem gX7_packed_X7_throwsIf : GoodIn wsX7_packed (wsV RX7 75 RX7 yX7_throwsIf wsX7_throwsIf) := goodIn_app (goodIn_of _ (by decide +kernel)) ggX7_packed_X7_throwsIf
set_option maxRecDepth 20000 in
theorem ggX7_packed_X7_bitsOf : GoodIn wsX7_packed wsX7_bitsOf := goodIn_ca (goodIn_r _ [13, 14, 15, 16, 17, 18, 19, 20, 21, 22, 23, 24, 25, 26, 27, 28, 29, 30, 31, 32, 33, 34, 35, 36, 37] (by decide +kernel) (by decide +kernel)) (goodIn_sub (fun _ h => List.mem_cons_of_mem _ (List.mem_append_right _ h)) (by decide +kernel))
set_option maxRecDepth 20000 in
theorem gX7_packed_X7_bitsOf : GoodIn wsX7_packed (wsV RX7 129 RX7 yX7_bitsOf wsX7_bitsOf) := goodIn_app (goodIn_of _ (by decide +kernel)) ggX7_packed_X7_bitsOf
theorem dX7_packed_0 : decode cX7_packed 0 = .ok (.aload_n 0, 1) := by decide +kernel
theorem dX7_packed_1 : decode cX7_packed 1 = .ok (.iconst 1, 1) := by decide +kernel
theorem dX7_packed_2 : decode cX7_packed 2 = .ok (.iload_n 1, 1) := by decide +kernel
theorem dX7_packed_3 : decode cX7_packed 3 = .ok (.iconst 2, 1) := by decide +kernel
theorem dX7_packed_4 : decode cX7_packed 4 = .ok (.if_icmp .eq 12, 3) := by decide +kernel
theorem dX7_packed_7 : decode cX7_packed 7 = .ok (.iload_n 1, 1) := by decide +kernel
theorem dX7_packed_8 : decode cX7_packed 8 = .ok (.iconst 4, 1) := by decide +kernel
theorem dX7_packed_9 : decode cX7_packed 9 = .ok (.if_icmp .eq 7, 3) := by decide +kernel
theorem dX7_packed_12 : decode cX7_packed 12 = .ok (.iconst 1, 1) := by decide +kernel
theorem dX7_packed_13 : decode cX7_packed 13 = .ok (.goto 4, 3) := by decide +kernel
theorem dX7_packed_16 : decode cX7_packed 16 = .ok (.iconst 0, 1) := by decide +kernel
theorem dX7_packed_17 : decode cX7_packed 17 = .ok (.invokevirtual 75, 3) := by decide +kernel
theorem dX7_packed_20 : decode cX7_packed 20 = .ok (.ifCond .eq 5, 3) := by decide +kernel
theorem dX7_packed_23 : decode cX7_packed 23 = .ok (.lconst 0, 1) := by decide +kernel
theorem dX7_packed_24 : decode cX7_packed 24 = .ok (.lreturn, 1) := by decide +kernel
theorem dX7_packed_25 : decode cX7_packed 25 = .ok (.bipush 64, 2) := by decide +kernel
theorem dX7_packed_27 : decode cX7_packed 27 = .ok (.iload_n 1, 1) := by decide +kernel
theorem dX7_packed_28 : decode cX7_packed 28 = .ok (.idiv, 1) := by decide +kernel
theorem dX7_packed_29 : decode cX7_packed 29 = .ok (.istore_n 3, 1) := by decide +kernel
theorem dX7_packed_30 : decode cX7_packed 30 = .ok (.lconst 0, 1) := by decide +kernel
theorem dX7_packed_31 : decode cX7_packed 31 = .ok (.lstore 4, 2) := by decide +kernel
theorem dX7_packed_33 : decode cX7_packed 33 = .ok (.iconst 0, 1) := by decide +kernel
theorem dX7_packed_34 : decode cX7_packed 34 = .ok (.istore 6, 2) := by decide +kernel
theorem dX7_packed_36 : decode cX7_packed 36 = .ok (.iload 6, 2) := by decide +kernel
theorem dX7_packed_38 : decode cX7_packed 38 = .ok (.iload_n 3, 1) := by decide +kernel
theorem dX7_packed_39 : decode cX7_packed 39 = .ok (.if_icmp .ge 61, 3) := by decide +kernel
theorem dX7_packed_42 : decode cX7_packed 42 = .ok (.aload_n 0, 1) := by decide +kernel
theorem dX7_packed_43 : decode cX7_packed 43 = .ok (.getfield 64, 3) := by decide +kernel
theorem dX7_packed_46 : decode cX7_packed 46 = .ok (.ifCond .eq 54, 3) := by decide +kernel
theorem dX7_packed_49 : decode cX7_packed 49 = .ok (.iload_n 2, 1) := by decide +kernel
theorem dX7_packed_50 : decode cX7_packed 50 = .ok (.ifCond .lt 50, 3) := by decide +kernel
theorem dX7_packed_53 : decode cX7_packed 53 = .ok (.iload_n 2, 1) := by decide +kernel
theorem dX7_packed_54 : decode cX7_packed 54 = .ok (.ldc 29, 2) := by decide +kernel
theorem dX7_packed_56 : decode cX7_packed 56 = .ok (.if_icmp .gt 44, 3) := by decide +kernel
theorem dX7_packed_59 : decode cX7_packed 59 = .ok (.iload_n 3, 1) := by decide +kernel
theorem dX7_packed_60 : decode cX7_packed 60 = .ok (.iload_n 2, 1) := by decide +kernel
theorem dX7_packed_61 : decode cX7_packed 61 = .ok (.imul, 1) := by decide +kernel
theorem dX7_packed_62 : decode cX7_packed 62 = .ok (.iload 6, 2) := by decide +kernel
theorem dX7_packed_64 : decode cX7_packed 64 = .ok (.iadd, 1) := by decide +kernel
theorem dX7_packed_65 : decode cX7_packed 65 = .ok (.istore 7, 2) := by decide +kernel
theorem dX7_packed_67 : decode cX7_packed 67 = .ok (.iload 7, 2) := by decide +kernel
theorem dX7_packed_69 : decode cX7_packed 69 = .ok (.aload_n 0, 1) := by decide +kernel
theorem dX7_packed_70 : decode cX7_packed 70 = .ok (.getfield 116, 3) := by decide +kernel
theorem dX7_packed_73 : decode cX7_packed 73 = .ok (.if_icmp .ge 21, 3) := by decide +kernel
theorem dX7_packed_76 : decode cX7_packed 76 = .ok (.lload 4, 2) := by decide +kernel
theorem dX7_packed_78 : decode cX7_packed 78 = .ok (.aload_n 0, 1) := by decide +kernel
theorem dX7_packed_79 : decode cX7_packed 79 = .ok (.iload 7, 2) := by decide +kernel
theorem dX7_packed_81 : decode cX7_packed 81 = .ok (.iload_n 1, 1) := by decide +kernel
theorem dX7_packed_82 : decode cX7_packed 82 = .ok (.invokevirtual 129, 3) := by decide +kernel
theorem dX7_packed_85 : decode cX7_packed 85 = .ok (.i2l, 1) := by decide +kernel
theorem dX7_packed_86 : decode cX7_packed 86 = .ok (.iload_n 1, 1) := by decide +kernel
theorem dX7_packed_87 : decode cX7_packed 87 = .ok (.iload 6, 2) := by decide +kernel
theorem dX7_packed_89 : decode cX7_packed 89 = .ok (.imul, 1) := by decide +kernel
theorem dX7_packed_90 : decode cX7_packed 90 = .ok (.lshl, 1) := by decide +kernel
theorem dX7_packed_91 : decode cX7_packed 91 = .ok (.lor, 1) := by decide +kernel
theorem dX7_packed_92 : decode cX7_packed 92 = .ok (.lstore 4, 2) := by decide +kernel
theorem dX7_packed_94 : decode cX7_packed 94 = .ok (.iinc 6 1, 3) := by decide +kernel
theorem dX7_packed_97 : decode cX7_packed 97 = .ok (.goto (-61), 3) := by decide +kernel
theorem dX7_packed_100 : decode cX7_packed 100 = .ok (.lload 4, 2) := by decide +kernel
theorem dX7_packed_102 : decode cX7_packed 102 = .ok (.lreturn, 1) := by decide +kernel
set_option maxRecDepth 20000 in
theorem ggX7_down_X7_times : GoodIn wsX7_down wsX7_times := goodIn_ca (goodIn_r _ [11, 12, 13, 14, 10, 15, 16, 17, 18, 19, 39, 40, 41, 42, 43, 44, 45, 46, 47, 48, 49, 50, 51, 52, 53, 54, 55, 56, 57, 58, 59, 60, 61] (by decide +kernel) (by decide +kernel)) (goodIn_sub (fun _ h => List.mem_cons_of_mem _ (List.mem_append_right _ h)) (by decide +kernel))
set_option maxRecDepth 20000 in
theorem gX7_down_X7_times : GoodIn wsX7_down (wsV RX7 119 RX7 yX7_times wsX7_times) := goodIn_app (goodIn_of _ (by decide +kernel)) ggX7_down_X7_times
set_option maxRecDepth 20000 in
theorem ggX7_down_X7_take : GoodIn wsX7_down wsX7_take := goodIn_ca (goodIn_r _ [23, 24, 25, 19, 26, 16, 27, 28, 29, 10, 30, 39, 40, 41, 42, 43, 44, 45, 46, 47, 48, 49, 50, 51, 52, 53, 54, 55, 56, 57, 58, 59, 60, 61] (by decide +kernel) (by decide +kernel)) (goodIn_sub (fun _ h => List.mem_cons_of_mem _ (List.mem_append_right _ h)) (by decide +kernel))
set_option maxRecDepth 20000 in
theorem gX7_down_X7_take : GoodIn wsX7_down (wsV RX7 106 RX7 yX7_take wsX7_take) := goodIn_app (goodIn_of _ (by decide +kernel)) ggX7_down_X7_take
set_option maxRecDepth 20000 in
theorem ggX7_down_X7_act : GoodIn wsX7_down wsX7_act := goodIn_ca (goodIn_r _ [34, 24, 26, 25, 17, 19, 18, 39, 40, 41, 42, 43, 44, 45, 46, 47, 48, 49, 50, 51, 52, 53, 54, 55, 56, 57, 58, 59, 60, 61] (by decide +kernel) (by decide +kernel)) (goodIn_sub (fun _ h => List.mem_cons_of_mem _ (List.mem_append_right _ h)) (by decide +kernel))
set_option maxRecDepth 20000 in
theorem gX7_down_X7_act : GoodIn wsX7_down (wsV RX7 113 RX7 yX7_act wsX7_act) := goodIn_app (goodIn_of _ (by decide +kernel)) ggX7_down_X7_act
set_option maxRecDepth 20000 in
theorem ggX7_down_X7_numberOf : GoodIn wsX7_down wsX7_numberOf := goodIn_ca (goodIn_r _ [38, 24, 26, 16, 19, 25, 27, 28, 29, 10, 30, 39, 40, 41, 42, 43, 44, 45, 46, 47, 48, 49, 50, 51, 52, 53, 54, 55, 56, 57, 58, 59, 60, 61] (by decide +kernel) (by decide +kernel)) (goodIn_sub (fun _ h => List.mem_cons_of_mem _ (List.mem_append_right _ h)) (by decide +kernel))
set_option maxRecDepth 20000 in
theorem gX7_down_X7_numberOf : GoodIn wsX7_down (wsV RX7 100 RX7 yX7_numberOf wsX7_numberOf) := goodIn_app (goodIn_of _ (by decide +kernel)) ggX7_down_X7_numberOf
theorem dX7_down_0 : decode cX7_down 0 = .ok (.aload_n 0, 1) := by decide +kernel
theorem dX7_down_1 : decode cX7_down 1 = .ok (.iconst 0, 1) := by decide +kernel
theorem dX7_down_2 : decode cX7_down 2 = .ok (.putfield 58, 3) := by decide +kernel
theorem dX7_down_5 : decode cX7_down 5 = .ok (.aload_n 0, 1) := by decide +kernel
theorem dX7_down_6 : decode cX7_down 6 = .ok (.getfield 64, 3) := by decide +kernel
theorem dX7_down_9 : decode cX7_down 9 = .ok (.ifCond .eq 16, 3) := by decide +kernel
theorem dX7_down_12 : decode cX7_down 12 = .ok (.aload_n 0, 1) := by decide +kernel
theorem dX7_down_13 : decode cX7_down 13 = .ok (.getfield 30, 3) := by decide +kernel
theorem dX7_down_16 : decode cX7_down 16 = .ok (.aload_n 0, 1) := by decide +kernel
theorem dX7_down_17 : decode cX7_down 17 = .ok (.getfield 90, 3) := by decide +kernel
theorem dX7_down_20 : decode cX7_down 20 = .ok (.iaload, 1) := by decide +kernel
theorem dX7_down_21 : decode cX7_down 21 = .ok (.iconst 1, 1) := by decide +kernel
theorem dX7_down_22 : decode cX7_down 22 = .ok (.if_icmp .ge 5, 3) := by decide +kernel
theorem dX7_down_25 : decode cX7_down 25 = .ok (.iconst (-1), 1) := by decide +kernel
theorem dX7_down_26 : decode cX7_down 26 = .ok (.ireturn, 1) := by decide +kernel
theorem dX7_down_27 : decode cX7_down 27 = .ok (.iconst 0, 1) := by decide +kernel
theorem dX7_down_28 : decode cX7_down 28 = .ok (.istore_n 1, 1) := by decide +kernel
theorem dX7_down_29 : decode cX7_down 29 = .ok (.iload_n 1, 1) := by decide +kernel
theorem dX7_down_30 : decode cX7_down 30 = .ok (.aload_n 0, 1) := by decide +kernel
theorem dX7_down_31 : decode cX7_down 31 = .ok (.getfield 61, 3) := by decide +kernel
theorem dX7_down_34 : decode cX7_down 34 = .ok (.if_icmp .ge 88, 3) := by decide +kernel
theorem dX7_down_37 : decode cX7_down 37 = .ok (.aload_n 0, 1) := by decide +kernel
theorem dX7_down_38 : decode cX7_down 38 = .ok (.iload_n 1, 1) := by decide +kernel
theorem dX7_down_39 : decode cX7_down 39 = .ok (.aload_n 0, 1) := by decide +kernel
theorem dX7_down_40 : decode cX7_down 40 = .ok (.getfield 126, 3) := by decide +kernel
theorem dX7_down_43 : decode cX7_down 43 = .ok (.invokevirtual 119, 3) := by decide +kernel
theorem dX7_down_46 : decode cX7_down 46 = .ok (.istore_n 2, 1) := by decide +kernel
theorem dX7_down_47 : decode cX7_down 47 = .ok (.aload_n 0, 1) := by decide +kernel
theorem dX7_down_48 : decode cX7_down 48 = .ok (.aload_n 0, 1) := by decide +kernel
theorem dX7_down_49 : decode cX7_down 49 = .ok (.getfield 90, 3) := by decide +kernel
theorem dX7_down_52 : decode cX7_down 52 = .ok (.invokevirtual 106, 3) := by decide +kernel
theorem dX7_down_55 : decode cX7_down 55 = .ok (.iconst 1, 1) := by decide +kernel
theorem dX7_down_56 : decode cX7_down 56 = .ok (.istore_n 3, 1) := by decide +kernel
theorem dX7_down_57 : decode cX7_down 57 = .ok (.iload_n 3, 1) := by decide +kernel
theorem dX7_down_58 : decode cX7_down 58 = .ok (.iload_n 2, 1) := by decide +kernel
theorem dX7_down_59 : decode cX7_down 59 = .ok (.if_icmp .gt 57, 3) := by decide +kernel
theorem dX7_down_62 : decode cX7_down 62 = .ok (.aload_n 0, 1) := by decide +kernel
theorem dX7_down_63 : decode cX7_down 63 = .ok (.iload_n 1, 1) := by decide +kernel
theorem dX7_down_64 : decode cX7_down 64 = .ok (.invokevirtual 113, 3) := by decide +kernel
theorem dX7_down_67 : decode cX7_down 67 = .ok (.aload_n 0, 1) := by decide +kernel
theorem dX7_down_68 : decode cX7_down 68 = .ok (.getfield 30, 3) := by decide +kernel
theorem dX7_down_71 : decode cX7_down 71 = .ok (.aload_n 0, 1) := by decide +kernel
theorem dX7_down_72 : decode cX7_down 72 = .ok (.invokevirtual 100, 3) := by decide +kernel
theorem dX7_down_75 : decode cX7_down 75 = .ok (.iaload, 1) := by decide +kernel
theorem dX7_down_76 : decode cX7_down 76 = .ok (.istore 4, 2) := by decide +kernel
theorem dX7_down_78 : decode cX7_down 78 = .ok (.iload 4, 2) := by decide +kernel
theorem dX7_down_80 : decode cX7_down 80 = .ok (.ifCond .lt 30, 3) := by decide +kernel
theorem dX7_down_83 : decode cX7_down 83 = .ok (.iload 4, 2) := by decide +kernel
theorem dX7_down_85 : decode cX7_down 85 = .ok (.iconst 3, 1) := by decide +kernel
theorem dX7_down_86 : decode cX7_down 86 = .ok (.irem, 1) := by decide +kernel
theorem dX7_down_87 : decode cX7_down 87 = .ok (.aload_n 0, 1) := by decide +kernel
theorem dX7_down_88 : decode cX7_down 88 = .ok (.getfield 30, 3) := by decide +kernel
theorem dX7_down_91 : decode cX7_down 91 = .ok (.aload_n 0, 1) := by decide +kernel
theorem dX7_down_92 : decode cX7_down 92 = .ok (.getfield 90, 3) := by decide +kernel
theorem dX7_down_95 : decode cX7_down 95 = .ok (.iaload, 1) := by decide +kernel
theorem dX7_down_96 : decode cX7_down 96 = .ok (.iconst 1, 1) := by decide +kernel
theorem dX7_down_97 : decode cX7_down 97 = .ok (.isub, 1) := by decide +kernel
theorem dX7_down_98 : decode cX7_down 98 = .ok (.iconst 3, 1) := by decide +kernel
theorem dX7_down_99 : decode cX7_down 99 = .ok (.irem, 1) := by decide +kernel
theorem dX7_down_100 : decode cX7_down 100 = .ok (.if_icmp .ne 10, 3) := by decide +kernel
theorem dX7_down_103 : decode cX7_down 103 = .ok (.bipush 16, 2) := by decide +kernel
theorem dX7_down_105 : decode cX7_down 105 = .ok (.iload_n 1, 1) := by decide +kernel
theorem dX7_down_106 : decode cX7_down 106 = .ok (.imul, 1) := by decide +kernel
theorem dX7_down_107 : decode cX7_down 107 = .ok (.iload_n 3, 1) := by decide +kernel
theorem dX7_down_108 : decode cX7_down 108 = .ok (.iadd, 1) := by decide +kernel
theorem dX7_down_109 : decode cX7_down 109 = .ok (.ireturn, 1) := by decide +kernel
theorem dX7_down_110 : decode cX7_down 110 = .ok (.iinc 3 1, 3) := by decide +kernel
theorem dX7_down_113 : decode cX7_down 113 = .ok (.goto (-56), 3) := by decide +kernel
theorem dX7_down_116 : decode cX7_down 116 = .ok (.iinc 1 1, 3) := by decide +kernel
theorem dX7_down_119 : decode cX7_down 119 = .ok (.goto (-90), 3) := by decide +kernel
theorem dX7_down_122 : decode cX7_down 122 = .ok (.iconst (-1), 1) := by decide +kernel
theorem dX7_down_123 : decode cX7_down 123 = .ok (.ireturn, 1) := by decide +kernel
theorem dX7_symmetry_0 : decode cX7_symmetry 0 = .ok (.aload_n 0, 1) := by decide +kernel
theorem dX7_symmetry_1 : decode cX7_symmetry 1 = .ok (.iconst 0, 1) := by decide +kernel
theorem dX7_symmetry_2 : decode cX7_symmetry 2 = .ok (.putfield 58, 3) := by decide +kernel
theorem dX7_symmetry_5 : decode cX7_symmetry 5 = .ok (.aload_n 0, 1) := by decide +kernel
theorem dX7_symmetry_6 : decode cX7_symmetry 6 = .ok (.getfield 132, 3) := by decide +kernel
theorem dX7_symmetry_9 : decode cX7_symmetry 9 = .ok (.iconst 4, 1) := by decide +kernel
theorem dX7_symmetry_10 : decode cX7_symmetry 10 = .ok (.if_icmp .ne 5, 3) := by decide +kernel
theorem dX7_symmetry_13 : decode cX7_symmetry 13 = .ok (.iconst (-1), 1) := by decide +kernel
theorem dX7_symmetry_14 : decode cX7_symmetry 14 = .ok (.ireturn, 1) := by decide +kernel
theorem dX7_symmetry_15 : decode cX7_symmetry 15 = .ok (.iconst 0, 1) := by decide +kernel
theorem dX7_symmetry_16 : decode cX7_symmetry 16 = .ok (.istore_n 1, 1) := by decide +kernel
theorem dX7_symmetry_17 : decode cX7_symmetry 17 = .ok (.iload_n 1, 1) := by decide +kernel
theorem dX7_symmetry_18 : decode cX7_symmetry 18 = .ok (.bipush 8, 2) := by decide +kernel
theorem dX7_symmetry_20 : decode cX7_symmetry 20 = .ok (.if_icmp .ge 24, 3) := by decide +kernel
theorem dX7_symmetry_23 : decode cX7_symmetry 23 = .ok (.aload_n 0, 1) := by decide +kernel
theorem dX7_symmetry_24 : decode cX7_symmetry 24 = .ok (.getfield 39, 3) := by decide +kernel
theorem dX7_symmetry_27 : decode cX7_symmetry 27 = .ok (.bipush 8, 2) := by decide +kernel
theorem dX7_symmetry_29 : decode cX7_symmetry 29 = .ok (.aload_n 0, 1) := by decide +kernel
theorem dX7_symmetry_30 : decode cX7_symmetry 30 = .ok (.getfield 132, 3) := by decide +kernel
theorem dX7_symmetry_33 : decode cX7_symmetry 33 = .ok (.imul, 1) := by decide +kernel
theorem dX7_symmetry_34 : decode cX7_symmetry 34 = .ok (.iload_n 1, 1) := by decide +kernel
theorem dX7_symmetry_35 : decode cX7_symmetry 35 = .ok (.iadd, 1) := by decide +kernel
theorem dX7_symmetry_36 : decode cX7_symmetry 36 = .ok (.iload_n 1, 1) := by decide +kernel
theorem dX7_symmetry_37 : decode cX7_symmetry 37 = .ok (.iastore, 1) := by decide +kernel
theorem dX7_symmetry_38 : decode cX7_symmetry 38 = .ok (.iinc 1 1, 3) := by decide +kernel
theorem dX7_symmetry_41 : decode cX7_symmetry 41 = .ok (.goto (-24), 3) := by decide +kernel
theorem dX7_symmetry_44 : decode cX7_symmetry 44 = .ok (.aload_n 0, 1) := by decide +kernel
theorem dX7_symmetry_45 : decode cX7_symmetry 45 = .ok (.dup, 1) := by decide +kernel
theorem dX7_symmetry_46 : decode cX7_symmetry 46 = .ok (.getfield 132, 3) := by decide +kernel
theorem dX7_symmetry_49 : decode cX7_symmetry 49 = .ok (.iconst 1, 1) := by decide +kernel
theorem dX7_symmetry_50 : decode cX7_symmetry 50 = .ok (.iadd, 1) := by decide +kernel
theorem dX7_symmetry_51 : decode cX7_symmetry 51 = .ok (.putfield 132, 3) := by decide +kernel
theorem dX7_symmetry_54 : decode cX7_symmetry 54 = .ok (.aload_n 0, 1) := by decide +kernel
theorem dX7_symmetry_55 : decode cX7_symmetry 55 = .ok (.getfield 132, 3) := by decide +kernel
theorem dX7_symmetry_58 : decode cX7_symmetry 58 = .ok (.iconst 1, 1) := by decide +kernel
theorem dX7_symmetry_59 : decode cX7_symmetry 59 = .ok (.isub, 1) := by decide +kernel
theorem dX7_symmetry_60 : decode cX7_symmetry 60 = .ok (.ireturn, 1) := by decide +kernel
set_option maxRecDepth 20000 in
theorem ggX7_turn_X7_isPlace : GoodIn wsX7_turn wsX7_isPlace := goodIn_r _ [7, 8, 14, 15, 16, 17, 18, 19, 20, 21, 22, 23, 24, 25, 26, 27, 28, 29, 30, 31, 32, 33, 34, 35, 36] (by decide +kernel) (by decide +kernel)
set_option maxRecDepth 20000 in
theorem gX7_turn_X7_isPlace : GoodIn wsX7_turn (wsV RX7 72 RX7 yX7_isPlace wsX7_isPlace) := goodIn_app (goodIn_of _ (by decide +kernel)) ggX7_turn_X7_isPlace
set_option maxRecDepth 20000 in
theorem ggX7_turn_X7_throwsIf : GoodIn wsX7_turn wsX7_throwsIf := goodIn_r _ [12, 13, 14, 15, 16, 17, 18, 19, 20, 21, 22, 23, 24, 25, 26, 27, 28, 29, 30, 31, 32, 33, 34, 35, 36] (by decide +kernel) (by decide +kernel)
set_option maxRecDepth 20000 in
theorem gX7_turn_X7_throwsIf : GoodIn wsX7_turn (wsV RX7 75 RX7 yX7_throwsIf wsX7_throwsIf) := goodIn_app (goodIn_of _ (by decide +kernel)) ggX7_turn_X7_throwsIf
theorem dX7_turn_0 : decode cX7_turn 0 = .ok (.aload_n 0, 1) := by decide +kernel
theorem dX7_turn_1 : decode cX7_turn 1 = .ok (.iconst 1, 1) := by decide +kernel
theorem dX7_turn_2 : decode cX7_turn 2 = .ok (.iload_n 1, 1) := by decide +kernel
theorem dX7_turn_3 : decode cX7_turn 3 = .ok (.ifCond .lt 27, 3) := by decide +kernel
theorem dX7_turn_6 : decode cX7_turn 6 = .ok (.iload_n 1, 1) := by decide +kernel
theorem dX7_turn_7 : decode cX7_turn 7 = .ok (.aload_n 0, 1) := by decide +kernel
theorem dX7_turn_8 : decode cX7_turn 8 = .ok (.getfield 132, 3) := by decide +kernel
theorem dX7_turn_11 : decode cX7_turn 11 = .ok (.if_icmp .ge 19, 3) := by decide +kernel
theorem dX7_turn_14 : decode cX7_turn 14 = .ok (.aload_n 0, 1) := by decide +kernel
theorem dX7_turn_15 : decode cX7_turn 15 = .ok (.iload_n 2, 1) := by decide +kernel
theorem dX7_turn_16 : decode cX7_turn 16 = .ok (.invokevirtual 72, 3) := by decide +kernel
theorem dX7_turn_19 : decode cX7_turn 19 = .ok (.ifCond .eq 11, 3) := by decide +kernel
theorem dX7_turn_22 : decode cX7_turn 22 = .ok (.aload_n 0, 1) := by decide +kernel
theorem dX7_turn_23 : decode cX7_turn 23 = .ok (.iload_n 3, 1) := by decide +kernel
theorem dX7_turn_24 : decode cX7_turn 24 = .ok (.invokevirtual 72, 3) := by decide +kernel
theorem dX7_turn_27 : decode cX7_turn 27 = .ok (.ifCond .ne 7, 3) := by decide +kernel
theorem dX7_turn_30 : decode cX7_turn 30 = .ok (.iconst 1, 1) := by decide +kernel
