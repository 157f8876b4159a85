theorem dL_cell_0 : decode cL_cell 0 = .ok (.iload_n 1, 1) := by decide +kernel
theorem dL_cell_1 : decode cL_cell 1 = .ok (.aload_n 0, 1) := by decide +kernel
theorem dL_cell_2 : decode cL_cell 2 = .ok (.arraylength, 1) := by decide +kernel
theorem dL_cell_3 : decode cL_cell 3 = .ok (.if_icmp .ge 9, 3) := by decide +kernel
theorem dL_cell_6 : decode cL_cell 6 = .ok (.aload_n 0, 1) := by decide +kernel
theorem dL_cell_7 : decode cL_cell 7 = .ok (.iload_n 1, 1) := by decide +kernel
theorem dL_cell_8 : decode cL_cell 8 = .ok (.iaload, 1) := by decide +kernel
theorem dL_cell_9 : decode cL_cell 9 = .ok (.goto 4, 3) := by decide +kernel
theorem dL_cell_12 : decode cL_cell 12 = .ok (.iconst 0, 1) := by decide +kernel
theorem dL_cell_13 : decode cL_cell 13 = .ok (.ireturn, 1) := by decide +kernel
set_option maxRecDepth 20000 in
theorem ggL_exchange_X6_exchange : GoodIn wsL_exchange wsX6_exchange := goodIn_ca (goodIn_r _ [6, 7, 8, 9, 10, 11, 5, 12, 13, 14, 15, 16, 17, 18, 19, 20, 21, 22, 23, 24, 25, 26, 27, 28, 29, 30, 31, 32, 33, 34, 35, 36, 37, 38, 39, 40, 41, 42, 43, 44, 45, 46, 47, 48, 49, 50, 51, 52, 53, 54, 55, 56, 57, 58, 59, 60, 61, 62, 63, 64, 65, 66, 67, 68, 69, 70, 71, 72, 73, 74] (by decide +kernel) (by decide +kernel)) (goodIn_sub (fun _ h => List.mem_cons_of_mem _ (List.mem_append_right _ h)) (by decide +kernel))
set_option maxRecDepth 20000 in
theorem gL_exchange_X6_exchange : GoodIn wsL_exchange (wsV RL 7 RX6 yX6_exchange wsX6_exchange) := goodIn_app (goodIn_of _ (by decide +kernel)) ggL_exchange_X6_exchange
theorem dL_exchange_0 : decode cL_exchange 0 = .ok (.aload 4, 2) := by decide +kernel
theorem dL_exchange_2 : decode cL_exchange 2 = .ok (.iconst 0, 1) := by decide +kernel
theorem dL_exchange_3 : decode cL_exchange 3 = .ok (.aload_n 0, 1) := by decide +kernel
theorem dL_exchange_4 : decode cL_exchange 4 = .ok (.iload_n 1, 1) := by decide +kernel
theorem dL_exchange_5 : decode cL_exchange 5 = .ok (.iload_n 2, 1) := by decide +kernel
theorem dL_exchange_6 : decode cL_exchange 6 = .ok (.iload_n 3, 1) := by decide +kernel
theorem dL_exchange_7 : decode cL_exchange 7 = .ok (.invokevirtual 7, 3) := by decide +kernel
theorem dL_exchange_10 : decode cL_exchange 10 = .ok (.ifCond .eq 7, 3) := by decide +kernel
theorem dL_exchange_13 : decode cL_exchange 13 = .ok (.lconst 1, 1) := by decide +kernel
theorem dL_exchange_14 : decode cL_exchange 14 = .ok (.goto 4, 3) := by decide +kernel
theorem dL_exchange_17 : decode cL_exchange 17 = .ok (.lconst 0, 1) := by decide +kernel
theorem dL_exchange_18 : decode cL_exchange 18 = .ok (.lastore, 1) := by decide +kernel
theorem dL_exchange_19 : decode cL_exchange 19 = .ok (.goto 7, 3) := by decide +kernel
theorem dL_exchange_22 : decode cL_exchange 22 = .ok (.astore 5, 2) := by decide +kernel
theorem dL_exchange_24 : decode cL_exchange 24 = .ok (.iconst 1, 1) := by decide +kernel
theorem dL_exchange_25 : decode cL_exchange 25 = .ok (.ireturn, 1) := by decide +kernel
theorem dL_exchange_26 : decode cL_exchange 26 = .ok (.iconst 0, 1) := by decide +kernel
theorem dL_exchange_27 : decode cL_exchange 27 = .ok (.ireturn, 1) := by decide +kernel
set_option maxRecDepth 20000 in
theorem ggL_adds_X6_adds : GoodIn wsL_adds wsX6_adds := goodIn_ca (goodIn_ca (goodIn_r _ [7, 8, 9, 10, 11, 12, 13, 14, 15, 6, 16, 17, 18, 19, 20, 21, 22, 23, 24, 25, 26, 27, 28, 29, 30, 31, 32, 33, 34, 35, 36, 37, 38, 39, 40, 41, 42, 43, 44, 45, 46, 47, 48, 49, 50, 51, 52, 53, 54, 55, 56, 57, 58, 59, 60, 61, 62, 63, 64, 65, 66, 67, 68, 69, 70, 71, 72, 73, 74, 75] (by decide +kernel) (by decide +kernel)) (goodIn_sub (fun _ h => List.mem_cons_of_mem _ (List.mem_append_right _ h)) (by decide +kernel))) (goodIn_sub (fun _ h => List.mem_cons_of_mem _ (List.mem_append_left _ (List.mem_append_right _ h))) (by decide +kernel))
set_option maxRecDepth 20000 in
theorem gL_adds_X6_adds : GoodIn wsL_adds (wsV RL 15 RX6 yX6_adds wsX6_adds) := goodIn_app (goodIn_of _ (by decide +kernel)) ggL_adds_X6_adds
theorem dL_adds_0 : decode cL_adds 0 = .ok (.aload 4, 2) := by decide +kernel
theorem dL_adds_2 : decode cL_adds 2 = .ok (.iconst 0, 1) := by decide +kernel
theorem dL_adds_3 : decode cL_adds 3 = .ok (.aload_n 0, 1) := by decide +kernel
theorem dL_adds_4 : decode cL_adds 4 = .ok (.iload_n 1, 1) := by decide +kernel
theorem dL_adds_5 : decode cL_adds 5 = .ok (.iload_n 2, 1) := by decide +kernel
theorem dL_adds_6 : decode cL_adds 6 = .ok (.iload_n 3, 1) := by decide +kernel
theorem dL_adds_7 : decode cL_adds 7 = .ok (.invokevirtual 15, 3) := by decide +kernel
theorem dL_adds_10 : decode cL_adds 10 = .ok (.ifCond .eq 7, 3) := by decide +kernel
theorem dL_adds_13 : decode cL_adds 13 = .ok (.lconst 1, 1) := by decide +kernel
theorem dL_adds_14 : decode cL_adds 14 = .ok (.goto 4, 3) := by decide +kernel
theorem dL_adds_17 : decode cL_adds 17 = .ok (.lconst 0, 1) := by decide +kernel
theorem dL_adds_18 : decode cL_adds 18 = .ok (.lastore, 1) := by decide +kernel
theorem dL_adds_19 : decode cL_adds 19 = .ok (.goto 11, 3) := by decide +kernel
theorem dL_adds_22 : decode cL_adds 22 = .ok (.astore 5, 2) := by decide +kernel
theorem dL_adds_24 : decode cL_adds 24 = .ok (.iconst 1, 1) := by decide +kernel
theorem dL_adds_25 : decode cL_adds 25 = .ok (.ireturn, 1) := by decide +kernel
theorem dL_adds_26 : decode cL_adds 26 = .ok (.astore 5, 2) := by decide +kernel
theorem dL_adds_28 : decode cL_adds 28 = .ok (.iconst 2, 1) := by decide +kernel
theorem dL_adds_29 : decode cL_adds 29 = .ok (.ireturn, 1) := by decide +kernel
theorem dL_adds_30 : decode cL_adds 30 = .ok (.iconst 0, 1) := by decide +kernel
theorem dL_adds_31 : decode cL_adds 31 = .ok (.ireturn, 1) := by decide +kernel
set_option maxRecDepth 20000 in
theorem ggL_order_X6_order : GoodIn wsL_order wsX6_order := goodIn_ca (goodIn_r _ [6, 7, 8, 9, 10, 5, 11, 12, 13, 14, 15, 16, 17, 18, 19, 20, 21, 22, 23, 24, 25, 26, 27, 28, 29, 30, 31, 32, 33, 34, 35, 36, 37, 38, 39, 40, 41, 42, 43, 44, 45, 46, 47, 48, 49, 50, 51, 52, 53, 54, 55, 56, 57, 58, 59, 60, 61, 62, 63, 64, 65, 66] (by decide +kernel) (by decide +kernel)) (goodIn_sub (fun _ h => List.mem_cons_of_mem _ (List.mem_append_right _ h)) (by decide +kernel))
set_option maxRecDepth 20000 in
theorem gL_order_X6_order : GoodIn wsL_order (wsV RL 20 RX6 yX6_order wsX6_order) := goodIn_app (goodIn_of _ (by decide +kernel)) ggL_order_X6_order
theorem dL_order_0 : decode cL_order 0 = .ok (.aload_n 2, 1) := by decide +kernel
theorem dL_order_1 : decode cL_order 1 = .ok (.iconst 0, 1) := by decide +kernel
theorem dL_order_2 : decode cL_order 2 = .ok (.aload_n 0, 1) := by decide +kernel
theorem dL_order_3 : decode cL_order 3 = .ok (.iload_n 1, 1) := by decide +kernel
theorem dL_order_4 : decode cL_order 4 = .ok (.invokevirtual 20, 3) := by decide +kernel
theorem dL_order_7 : decode cL_order 7 = .ok (.i2l, 1) := by decide +kernel
theorem dL_order_8 : decode cL_order 8 = .ok (.lastore, 1) := by decide +kernel
theorem dL_order_9 : decode cL_order 9 = .ok (.goto 6, 3) := by decide +kernel
theorem dL_order_12 : decode cL_order 12 = .ok (.astore_n 3, 1) := by decide +kernel
theorem dL_order_13 : decode cL_order 13 = .ok (.iconst 1, 1) := by decide +kernel
theorem dL_order_14 : decode cL_order 14 = .ok (.ireturn, 1) := by decide +kernel
theorem dL_order_15 : decode cL_order 15 = .ok (.iconst 0, 1) := by decide +kernel
theorem dL_order_16 : decode cL_order 16 = .ok (.ireturn, 1) := by decide +kernel
set_option maxRecDepth 20000 in
theorem ggL_choose_X6_choose : GoodIn wsL_choose wsX6_choose := goodIn_ca (goodIn_r _ [6, 7, 8, 9, 10, 11, 12, 13, 5, 14, 15, 16, 17, 18, 19, 20, 21, 22, 23, 24, 25, 26, 27, 28, 29, 30, 31, 32, 33, 34, 35, 36, 37, 38, 39, 40, 41, 42, 43, 44, 45, 46, 47, 48, 49, 50, 51, 52, 53, 54, 55, 56, 57, 58, 59, 60, 61, 62, 63, 64, 65, 66, 67, 68, 69, 70, 71, 72, 73, 74, 75, 76, 77, 78, 79, 80, 81, 82, 83, 84, 85, 86, 87, 88, 89, 90, 91, 92, 93, 94, 95, 96, 97, 98, 99, 100, 101, 102, 103] (by decide +kernel) (by decide +kernel)) (goodIn_sub (fun _ h => List.mem_cons_of_mem _ (List.mem_append_right _ h)) (by decide +kernel))
set_option maxRecDepth 20000 in
theorem gL_choose_X6_choose : GoodIn wsL_choose (wsV RL 24 RX6 yX6_choose wsX6_choose) := goodIn_app (goodIn_of _ (by decide +kernel)) ggL_choose_X6_choose
theorem dL_choose_0 : decode cL_choose 0 = .ok (.aload_n 3, 1) := by decide +kernel
theorem dL_choose_1 : decode cL_choose 1 = .ok (.iconst 0, 1) := by decide +kernel
theorem dL_choose_2 : decode cL_choose 2 = .ok (.aload_n 0, 1) := by decide +kernel
theorem dL_choose_3 : decode cL_choose 3 = .ok (.iload_n 1, 1) := by decide +kernel
theorem dL_choose_4 : decode cL_choose 4 = .ok (.iload_n 2, 1) := by decide +kernel
theorem dL_choose_5 : decode cL_choose 5 = .ok (.invokevirtual 24, 3) := by decide +kernel
theorem dL_choose_8 : decode cL_choose 8 = .ok (.ifCond .eq 7, 3) := by decide +kernel
theorem dL_choose_11 : decode cL_choose 11 = .ok (.lconst 1, 1) := by decide +kernel
theorem dL_choose_12 : decode cL_choose 12 = .ok (.goto 4, 3) := by decide +kernel
theorem dL_choose_15 : decode cL_choose 15 = .ok (.lconst 0, 1) := by decide +kernel
theorem dL_choose_16 : decode cL_choose 16 = .ok (.lastore, 1) := by decide +kernel
theorem dL_choose_17 : decode cL_choose 17 = .ok (.goto 7, 3) := by decide +kernel
theorem dL_choose_20 : decode cL_choose 20 = .ok (.astore 4, 2) := by decide +kernel
theorem dL_choose_22 : decode cL_choose 22 = .ok (.iconst 1, 1) := by decide +kernel
theorem dL_choose_23 : decode cL_choose 23 = .ok (.ireturn, 1) := by decide +kernel
theorem dL_choose_24 : decode cL_choose 24 = .ok (.iconst 0, 1) := by decide +kernel
theorem dL_choose_25 : decode cL_choose 25 = .ok (.ireturn, 1) := by decide +kernel
set_option maxRecDepth 20000 in
theorem ggL_set_X6_set : GoodIn wsL_set wsX6_set := goodIn_ca (goodIn_r _ [6, 7, 8, 9, 10, 11, 12, 13, 14, 15, 16, 17, 5, 18, 19, 20, 21, 22, 23, 24, 25, 26, 27, 28, 29, 30, 31, 32, 33, 34, 35, 36, 37, 38, 39, 40, 41, 42, 43, 44, 45, 46, 47, 48, 49, 50, 51, 52, 53, 54, 55, 56, 57, 58, 59, 60, 61, 62, 63, 64, 65, 66, 67, 68, 69, 70, 71, 72, 73] (by decide +kernel) (by decide +kernel)) (goodIn_sub (fun _ h => List.mem_cons_of_mem _ (List.mem_append_right _ h)) (by decide +kernel))
set_option maxRecDepth 20000 in
theorem gL_set_X6_set : GoodIn wsL_set (wsV RL 28 RX6 yX6_set wsX6_set) := goodIn_app (goodIn_of _ (by decide +kernel)) ggL_set_X6_set
theorem dL_set_0 : decode cL_set 0 = .ok (.aload_n 0, 1) := by decide +kernel
theorem dL_set_1 : decode cL_set 1 = .ok (.iload_n 1, 1) := by decide +kernel
theorem dL_set_2 : decode cL_set 2 = .ok (.invokevirtual 28, 3) := by decide +kernel
theorem dL_set_5 : decode cL_set 5 = .ok (.goto 6, 3) := by decide +kernel
theorem dL_set_8 : decode cL_set 8 = .ok (.astore_n 2, 1) := by decide +kernel
theorem dL_set_9 : decode cL_set 9 = .ok (.iconst 1, 1) := by decide +kernel
theorem dL_set_10 : decode cL_set 10 = .ok (.ireturn, 1) := by decide +kernel
theorem dL_set_11 : decode cL_set 11 = .ok (.iconst 0, 1) := by decide +kernel
theorem dL_set_12 : decode cL_set 12 = .ok (.ireturn, 1) := by decide +kernel
set_option maxRecDepth 20000 in
theorem ggL_place_X6_place : GoodIn wsL_place wsX6_place := goodIn_ca (goodIn_r _ [6, 7, 8, 9, 10, 11, 5, 12, 13, 14, 15, 16, 17, 18, 19, 20, 21, 22, 23, 24, 25, 26, 27, 28, 29, 30, 31, 32, 33, 34, 35, 36, 37, 38, 39, 40, 41, 42, 43, 44, 45, 46, 47, 48, 49, 50, 51, 52] (by decide +kernel) (by decide +kernel)) (goodIn_sub (fun _ h => List.mem_cons_of_mem _ (List.mem_append_right _ h)) (by decide +kernel))
set_option maxRecDepth 20000 in
theorem gL_place_X6_place : GoodIn wsL_place (wsV RL 32 RX6 yX6_place wsX6_place) := goodIn_app (goodIn_of _ (by decide +kernel)) ggL_place_X6_place
theorem dL_place_0 : decode cL_place 0 = .ok (.aload_n 2, 1) := by decide +kernel
theorem dL_place_1 : decode cL_place 1 = .ok (.iconst 0, 1) := by decide +kernel
theorem dL_place_2 : decode cL_place 2 = .ok (.aload_n 0, 1) := by decide +kernel
theorem dL_place_3 : decode cL_place 3 = .ok (.iload_n 1, 1) := by decide +kernel
theorem dL_place_4 : decode cL_place 4 = .ok (.invokevirtual 32, 3) := by decide +kernel
theorem dL_place_7 : decode cL_place 7 = .ok (.i2l, 1) := by decide +kernel
theorem dL_place_8 : decode cL_place 8 = .ok (.lastore, 1) := by decide +kernel
theorem dL_place_9 : decode cL_place 9 = .ok (.goto 6, 3) := by decide +kernel
theorem dL_place_12 : decode cL_place 12 = .ok (.astore_n 3, 1) := by decide +kernel
theorem dL_place_13 : decode cL_place 13 = .ok (.iconst 1, 1) := by decide +kernel
theorem dL_place_14 : decode cL_place 14 = .ok (.ireturn, 1) := by decide +kernel
theorem dL_place_15 : decode cL_place 15 = .ok (.iconst 0, 1) := by decide +kernel
theorem dL_place_16 : decode cL_place 16 = .ok (.ireturn, 1) := by decide +kernel
set_option maxRecDepth 20000 in
theorem ggL_twist_X6_twist : GoodIn wsL_twist wsX6_twist := goodIn_ca (goodIn_r _ [6, 7, 8, 9, 10, 11, 5, 12, 13, 14, 15, 16, 17, 18, 19, 20, 21, 22, 23, 24, 25, 26, 27, 28, 29, 30, 31, 32, 33, 34, 35, 36, 37, 38, 39, 40, 41, 42, 43, 44, 45, 46, 47, 48, 49, 50, 51, 52] (by decide +kernel) (by decide +kernel)) (goodIn_sub (fun _ h => List.mem_cons_of_mem _ (List.mem_append_right _ h)) (by decide +kernel))
set_option maxRecDepth 20000 in
theorem gL_twist_X6_twist : GoodIn wsL_twist (wsV RL 35 RX6 yX6_twist wsX6_twist) := goodIn_app (goodIn_of _ (by decide +kernel)) ggL_twist_X6_twist
theorem dL_twist_0 : decode cL_twist 0 = .ok (.aload_n 2, 1) := by decide +kernel
theorem dL_twist_1 : decode cL_twist 1 = .ok (.iconst 0, 1) := by decide +kernel
theorem dL_twist_2 : decode cL_twist 2 = .ok (.aload_n 0, 1) := by decide +kernel
theorem dL_twist_3 : decode cL_twist 3 = .ok (.iload_n 1, 1) := by decide +kernel
theorem dL_twist_4 : decode cL_twist 4 = .ok (.invokevirtual 35, 3) := by decide +kernel
theorem dL_twist_7 : decode cL_twist 7 = .ok (.i2l, 1) := by decide +kernel
theorem dL_twist_8 : decode cL_twist 8 = .ok (.lastore, 1) := by decide +kernel
theorem dL_twist_9 : decode cL_twist 9 = .ok (.goto 6, 3) := by decide +kernel
theorem dL_twist_12 : decode cL_twist 12 = .ok (.astore_n 3, 1) := by decide +kernel
theorem dL_twist_13 : decode cL_twist 13 = .ok (.iconst 1, 1) := by decide +kernel
theorem dL_twist_14 : decode cL_twist 14 = .ok (.ireturn, 1) := by decide +kernel
theorem dL_twist_15 : decode cL_twist 15 = .ok (.iconst 0, 1) := by decide +kernel
theorem dL_twist_16 : decode cL_twist 16 = .ok (.ireturn, 1) := by decide +kernel
set_option maxRecDepth 20000 in
theorem ggL_apply_X6_apply : GoodIn wsL_apply wsX6_apply := goodIn_ca (goodIn_r _ [6, 7, 8, 9, 10, 11, 5, 12, 13, 14, 15, 16, 17, 18, 19, 20, 21, 22, 23, 24, 25, 26, 27, 28, 29, 30, 31, 32, 33, 34, 35, 36, 37, 38, 39, 40, 41, 42, 43, 44, 45, 46, 47, 48] (by decide +kernel) (by decide +kernel)) (goodIn_sub (fun _ h => List.mem_cons_of_mem _ (List.mem_append_right _ h)) (by decide +kernel))
set_option maxRecDepth 20000 in
theorem gL_apply_X6_apply : GoodIn wsL_apply (wsV RL 38 RX6 yX6_apply wsX6_apply) := goodIn_app (goodIn_of _ (by decide +kernel)) ggL_apply_X6_apply
theorem dL_apply_0 : decode cL_apply 0 = .ok (.aload_n 0, 1) := by decide +kernel
theorem dL_apply_1 : decode cL_apply 1 = .ok (.iload_n 1, 1) := by decide +kernel
theorem dL_apply_2 : decode cL_apply 2 = .ok (.invokevirtual 38, 3) := by decide +kernel
theorem dL_apply_5 : decode cL_apply 5 = .ok (.goto 6, 3) := by decide +kernel
theorem dL_apply_8 : decode cL_apply 8 = .ok (.astore_n 2, 1) := by decide +kernel
theorem dL_apply_9 : decode cL_apply 9 = .ok (.iconst 1, 1) := by decide +kernel
theorem dL_apply_10 : decode cL_apply 10 = .ok (.ireturn, 1) := by decide +kernel
theorem dL_apply_11 : decode cL_apply 11 = .ok (.iconst 0, 1) := by decide +kernel
theorem dL_apply_12 : decode cL_apply 12 = .ok (.ireturn, 1) := by decide +kernel
set_option maxRecDepth 20000 in
theorem ggL_value_X6_value : GoodIn wsL_value wsX6_value := goodIn_ca (goodIn_r _ [6, 7, 8, 9, 10, 11, 12, 13, 14, 15, 16, 17, 5, 18, 19, 20, 21, 22, 23, 24, 25, 26, 27, 28, 29, 30, 31, 32, 33, 34, 35, 36, 37, 38, 39, 40, 41, 42, 43, 44, 45, 46, 47, 48, 49, 50, 51, 52, 53, 54, 55, 56, 57, 58, 59, 60, 61, 62, 63] (by decide +kernel) (by decide +kernel)) (goodIn_sub (fun _ h => List.mem_cons_of_mem _ (List.mem_append_right _ h)) (by decide +kernel))
set_option maxRecDepth 20000 in
theorem gL_value_X6_value : GoodIn wsL_value (wsV RL 41 RX6 yX6_value wsX6_value) := goodIn_app (goodIn_of _ (by decide +kernel)) ggL_value_X6_value
theorem dL_value_0 : decode cL_value 0 = .ok (.aload_n 2, 1) := by decide +kernel
theorem dL_value_1 : decode cL_value 1 = .ok (.iconst 0, 1) := by decide +kernel
theorem dL_value_2 : decode cL_value 2 = .ok (.aload_n 0, 1) := by decide +kernel
theorem dL_value_3 : decode cL_value 3 = .ok (.iload_n 1, 1) := by decide +kernel
theorem dL_value_4 : decode cL_value 4 = .ok (.invokevirtual 41, 3) := by decide +kernel
theorem dL_value_7 : decode cL_value 7 = .ok (.i2l, 1) := by decide +kernel
theorem dL_value_8 : decode cL_value 8 = .ok (.lastore, 1) := by decide +kernel
theorem dL_value_9 : decode cL_value 9 = .ok (.goto 6, 3) := by decide +kernel
theorem dL_value_12 : decode cL_value 12 = .ok (.astore_n 3, 1) := by decide +kernel
theorem dL_value_13 : decode cL_value 13 = .ok (.iconst 1, 1) := by decide +kernel
theorem dL_value_14 : decode cL_value 14 = .ok (.ireturn, 1) := by decide +kernel
theorem dL_value_15 : decode cL_value 15 = .ok (.iconst 0, 1) := by decide +kernel
theorem dL_value_16 : decode cL_value 16 = .ok (.ireturn, 1) := by decide +kernel
set_option maxRecDepth 20000 in
theorem ggL_packed_X6_packed : GoodIn wsL_packed wsX6_packed := goodIn_ca (goodIn_ca (goodIn_r _ [6, 7, 8, 9, 10, 11, 12, 13, 14, 15, 16, 17, 18, 19, 20, 21, 22, 23, 24, 25, 26, 27, 28, 29, 30, 31, 32, 33, 34, 35, 36, 37, 38, 39, 40, 41, 42, 43, 44, 45, 46, 47, 48, 49] (by decide +kernel) (by decide +kernel)) (goodIn_sub (fun _ h => List.mem_cons_of_mem _ (List.mem_append_right _ h)) (by decide +kernel))) (goodIn_sub (fun _ h => List.mem_cons_of_mem _ (List.mem_append_left _ (List.mem_append_right _ h))) (by decide +kernel))
set_option maxRecDepth 20000 in
theorem gL_packed_X6_packed : GoodIn wsL_packed (wsV RL 44 RX6 yX6_packed wsX6_packed) := goodIn_app (goodIn_of _ (by decide +kernel)) ggL_packed_X6_packed
theorem dL_packed_0 : decode cL_packed 0 = .ok (.aload_n 3, 1) := by decide +kernel
theorem dL_packed_1 : decode cL_packed 1 = .ok (.iconst 0, 1) := by decide +kernel
theorem dL_packed_2 : decode cL_packed 2 = .ok (.aload_n 0, 1) := by decide +kernel
theorem dL_packed_3 : decode cL_packed 3 = .ok (.iload_n 1, 1) := by decide +kernel
theorem dL_packed_4 : decode cL_packed 4 = .ok (.iload_n 2, 1) := by decide +kernel
theorem dL_packed_5 : decode cL_packed 5 = .ok (.invokevirtual 44, 3) := by decide +kernel
theorem dL_packed_8 : decode cL_packed 8 = .ok (.lastore, 1) := by decide +kernel
theorem dL_packed_9 : decode cL_packed 9 = .ok (.goto 7, 3) := by decide +kernel
theorem dL_packed_12 : decode cL_packed 12 = .ok (.astore 4, 2) := by decide +kernel
theorem dL_packed_14 : decode cL_packed 14 = .ok (.iconst 1, 1) := by decide +kernel
theorem dL_packed_15 : decode cL_packed 15 = .ok (.ireturn, 1) := by decide +kernel
theorem dL_packed_16 : decode cL_packed 16 = .ok (.iconst 0, 1) := by decide +kernel
theorem dL_packed_17 : decode cL_packed 17 = .ok (.ireturn, 1) := by decide +kernel
set_option maxRecDepth 20000 in
theorem ggL_turn_X6_turn : GoodIn wsL_turn wsX6_turn := goodIn_ca (goodIn_r _ [6, 7, 8, 9, 10, 11, 12, 5, 13, 14, 15, 16, 17, 18, 19, 20, 21, 22, 23, 24, 25, 26, 27, 28, 29, 30, 31, 32, 33, 34, 35, 36, 37, 38, 39, 40, 41, 42, 43, 44, 45, 46, 47, 48, 49, 50, 51, 52, 53, 54] (by decide +kernel) (by decide +kernel)) (goodIn_sub (fun _ h => List.mem_cons_of_mem _ (List.mem_append_right _ h)) (by decide +kernel))
set_option maxRecDepth 20000 in
theorem gL_turn_X6_turn : GoodIn wsL_turn (wsV RL 48 RX6 yX6_turn wsX6_turn) := goodIn_app (goodIn_of _ (by decide +kernel)) ggL_turn_X6_turn
theorem dL_turn_0 : decode cL_turn 0 = .ok (.aload 4, 2) := by decide +kernel
theorem dL_turn_2 : decode cL_turn 2 = .ok (.iconst 0, 1) := by decide +kernel
theorem dL_turn_3 : decode cL_turn 3 = .ok (.aload_n 0, 1) := by decide +kernel
theorem dL_turn_4 : decode cL_turn 4 = .ok (.iload_n 1, 1) := by decide +kernel
theorem dL_turn_5 : decode cL_turn 5 = .ok (.iload_n 2, 1) := by decide +kernel
theorem dL_turn_6 : decode cL_turn 6 = .ok (.iload_n 3, 1) := by decide +kernel
theorem dL_turn_7 : decode cL_turn 7 = .ok (.invokevirtual 48, 3) := by decide +kernel
theorem dL_turn_10 : decode cL_turn 10 = .ok (.ifCond .eq 7, 3) := by decide +kernel
theorem dL_turn_13 : decode cL_turn 13 = .ok (.lconst 1, 1) := by decide +kernel
theorem dL_turn_14 : decode cL_turn 14 = .ok (.goto 4, 3) := by decide +kernel
theorem dL_turn_17 : decode cL_turn 17 = .ok (.lconst 0, 1) := by decide +kernel
theorem dL_turn_18 : decode cL_turn 18 = .ok (.lastore, 1) := by decide +kernel
theorem dL_turn_19 : decode cL_turn 19 = .ok (.goto 7, 3) := by decide +kernel
theorem dL_turn_22 : decode cL_turn 22 = .ok (.astore 5, 2) := by decide +kernel
theorem dL_turn_24 : decode cL_turn 24 = .ok (.iconst 1, 1) := by decide +kernel
theorem dL_turn_25 : decode cL_turn 25 = .ok (.ireturn, 1) := by decide +kernel
theorem dL_turn_26 : decode cL_turn 26 = .ok (.iconst 0, 1) := by decide +kernel
theorem dL_turn_27 : decode cL_turn 27 = .ok (.ireturn, 1) := by decide +kernel
set_option maxRecDepth 20000 in
theorem ggL_good_X6_good : GoodIn wsL_good wsX6_good := goodIn_ca (goodIn_r _ [6, 7, 8, 9, 10, 5, 11, 12, 13, 14, 15, 16, 17, 18, 19, 20, 21, 22, 23, 24, 25, 26, 27, 28, 29, 30, 31, 32, 33, 34, 35, 36, 37, 38, 39, 40, 41, 42, 43, 44, 45, 46, 47, 48, 49, 50, 51, 52, 53, 54, 55, 56, 57, 58, 59, 60, 61, 62, 63, 64, 65, 66, 67, 68, 69, 70, 71] (by decide +kernel) (by decide +kernel)) (goodIn_sub (fun _ h => List.mem_cons_of_mem _ (List.mem_append_right _ h)) (by decide +kernel))
set_option maxRecDepth 20000 in
theorem gL_good_X6_good : GoodIn wsL_good (wsV RL 51 RX6 yX6_good wsX6_good) := goodIn_app (goodIn_of _ (by decide +kernel)) ggL_good_X6_good
theorem dL_good_0 : decode cL_good 0 = .ok (.aload_n 2, 1) := by decide +kernel
theorem dL_good_1 : decode cL_good 1 = .ok (.iconst 0, 1) := by decide +kernel
theorem dL_good_2 : decode cL_good 2 = .ok (.aload_n 0, 1) := by decide +kernel
theorem dL_good_3 : decode cL_good 3 = .ok (.iload_n 1, 1) := by decide +kernel
theorem dL_good_4 : decode cL_good 4 = .ok (.invokevirtual 51, 3) := by decide +kernel
theorem dL_good_7 : decode cL_good 7 = .ok (.ifCond .eq 7, 3) := by decide +kernel
theorem dL_good_10 : decode cL_good 10 = .ok (.lconst 1, 1) := by decide +kernel
theorem dL_good_11 : decode cL_good 11 = .ok (.goto 4, 3) := by decide +kernel
theorem dL_good_14 : decode cL_good 14 = .ok (.lconst 0, 1) := by decide +kernel
theorem dL_good_15 : decode cL_good 15 = .ok (.lastore, 1) := by decide +kernel
theorem dL_good_16 : decode cL_good 16 = .ok (.goto 6, 3) := by decide +kernel
theorem dL_good_19 : decode cL_good 19 = .ok (.astore_n 3, 1) := by decide +kernel
theorem dL_good_20 : decode cL_good 20 = .ok (.iconst 1, 1) := by decide +kernel
theorem dL_good_21 : decode cL_good 21 = .ok (.ireturn, 1) := by decide +kernel
theorem dL_good_22 : decode cL_good 22 = .ok (.iconst 0, 1) := by decide +kernel
theorem dL_good_23 : decode cL_good 23 = .ok (.ireturn, 1) := by decide +kernel
set_option maxRecDepth 20000 in
theorem ggL_least_X6_least : GoodIn wsL_least wsX6_least := goodIn_ca (goodIn_r _ [6, 7, 8, 9, 10, 11, 12, 13, 14, 15, 16, 17, 5, 18, 19, 20, 21, 22, 23, 24, 25, 26, 27, 28, 29, 30, 31, 32, 33, 34, 35, 36, 37, 38, 39, 40, 41, 42, 43, 44, 45, 46, 47, 48, 49, 50, 51, 52, 53, 54, 55, 56, 57, 58, 59, 60, 61, 62, 63, 64, 65, 66, 67, 68, 69, 70, 71, 72, 73, 74, 75, 76, 77, 78, 79, 80, 81, 82, 83, 84, 85, 86, 87, 88, 89, 90, 91, 92, 93, 94, 95, 96, 97, 98, 99, 100, 101, 102, 103, 104, 105, 106, 107, 108, 109, 110, 111, 112, 113, 114, 115, 116, 117, 118, 119, 120, 121, 122, 123, 124, 125, 126, 127, 128, 129, 130, 131, 132, 133, 134, 135, 136, 137, 138, 139, 140, 141, 142, 143, 144, 145, 146, 147, 148, 149, 150, 151, 152, 153, 154, 155, 156, 157, 158, 159, 160, 161, 162, 163, 164, 165, 166, 167, 168, 169, 170, 171, 172, 173, 174, 175] (by decide +kernel) (by decide +kernel)) (goodIn_sub (fun _ h => List.mem_cons_of_mem _ (List.mem_append_right _ h)) (by decide +kernel))
set_option maxRecDepth 20000 in
theorem gL_least_X6_least : GoodIn wsL_least (wsV RL 55 RX6 yX6_least wsX6_least) := goodIn_app (goodIn_of _ (by decide +kernel)) ggL_least_X6_least
theorem dL_least_0 : decode cL_least 0 = .ok (.aload_n 2, 1) := by decide +kernel
theorem dL_least_1 : decode cL_least 1 = .ok (.iconst 0, 1) := by decide +kernel
theorem dL_least_2 : decode cL_least 2 = .ok (.aload_n 0, 1) := by decide +kernel
theorem dL_least_3 : decode cL_least 3 = .ok (.iload_n 1, 1) := by decide +kernel
theorem dL_least_4 : decode cL_least 4 = .ok (.invokevirtual 55, 3) := by decide +kernel
theorem dL_least_7 : decode cL_least 7 = .ok (.i2l, 1) := by decide +kernel
theorem dL_least_8 : decode cL_least 8 = .ok (.lastore, 1) := by decide +kernel
theorem dL_least_9 : decode cL_least 9 = .ok (.goto 6, 3) := by decide +kernel
theorem dL_least_12 : decode cL_least 12 = .ok (.astore_n 3, 1) := by decide +kernel
theorem dL_least_13 : decode cL_least 13 = .ok (.iconst 1, 1) := by decide +kernel
theorem dL_least_14 : decode cL_least 14 = .ok (.ireturn, 1) := by decide +kernel
theorem dL_least_15 : decode cL_least 15 = .ok (.iconst 0, 1) := by decide +kernel
theorem dL_least_16 : decode cL_least 16 = .ok (.ireturn, 1) := by decide +kernel
set_option maxRecDepth 20000 in
theorem ggL_law_L_cell : GoodIn wsL_law wsL_cell := goodIn_ca (goodIn_r _ [10] (by decide +kernel) (by decide +kernel)) (goodIn_sub (fun _ h => List.mem_append_left _ (List.mem_append_right _ h)) (by decide +kernel))
set_option maxRecDepth 20000 in
theorem gL_law_L_cell : GoodIn wsL_law (va_wsS RL 58 yL_cell wsL_cell) := goodIn_app (goodIn_of _ (by decide +kernel)) ggL_law_L_cell
set_option maxRecDepth 20000 in
theorem ggL_law_X6_init : GoodIn wsL_law wsX6_init := goodIn_ca (goodIn_r _ [13, 14, 15, 16, 17, 18, 19, 20, 21, 22, 23, 24, 25, 26, 27, 28, 29, 30, 31, 32, 33, 34, 35, 36, 37, 38, 39, 40, 41, 42, 43, 44, 45, 46, 47, 48, 49, 50, 51, 52, 53, 54, 55, 56, 57, 58, 59, 60, 61, 62, 63, 64, 2, 65, 66, 67, 68, 69, 70, 71, 72, 73, 74, 75, 76, 77, 78, 79, 80, 81, 82, 83, 84, 85, 86, 87, 88, 89, 90, 91, 92, 93, 94, 95, 96, 97, 98, 99, 100, 101, 102, 103, 104, 105, 106, 107, 108, 680, 681, 682, 683, 684, 685, 686, 687, 688, 689, 690, 691, 692, 693, 694, 718, 719, 720, 721, 722, 723, 724, 725, 726, 727, 728, 729, 730, 731, 732, 733, 734, 735, 736, 737, 738, 739, 740, 741, 742, 743, 744, 745, 746, 747, 748, 749, 750] (by decide +kernel) (by decide +kernel)) (goodIn_sub (fun _ h => List.mem_append_left _ (List.mem_append_right _ h)) (by decide +kernel))
set_option maxRecDepth 20000 in
theorem gL_law_X6_init : GoodIn wsL_law (wsX6_init) := ggL_law_X6_init
set_option maxRecDepth 20000 in
theorem ggL_law_X7_init : GoodIn wsL_law wsX7_init := goodIn_r _ [111, 112, 15, 16, 31, 113, 114, 75, 115, 116, 117, 118, 119, 120, 121, 122, 123, 124, 125, 126, 127, 128, 695, 696, 697, 698, 699, 700, 701, 702, 703, 704, 705, 706, 707, 708, 709, 710, 711, 712, 713, 714, 715, 716, 717] (by decide +kernel) (by decide +kernel)
set_option maxRecDepth 20000 in
theorem gL_law_X7_init : GoodIn wsL_law (wsX7_init) := ggL_law_X7_init
set_option maxRecDepth 20000 in
theorem ggL_law_X6_move : GoodIn wsL_law wsX6_move := goodIn_r _ [132, 133, 134, 135, 136, 2, 137, 52, 56, 138, 139, 140, 51, 141, 142, 143, 144, 145, 55, 146, 147, 680, 681, 682, 683, 684, 685, 686, 687, 688, 689, 690, 691, 692, 693, 694, 737, 738, 739, 740, 741, 742, 743, 744, 745, 746, 747, 748, 749, 750] (by decide +kernel) (by decide +kernel)
set_option maxRecDepth 20000 in
theorem gL_law_X6_move : GoodIn wsL_law (wsV RL 70 RX6 yX6_move wsX6_move) := goodIn_app (goodIn_of _ (by decide +kernel)) ggL_law_X6_move
set_option maxRecDepth 20000 in
theorem ggL_law_X7_move : GoodIn wsL_law wsX7_move := goodIn_ca (goodIn_r _ [151, 152, 153, 113, 114, 154, 695, 696, 697, 698, 699, 700, 701, 702, 703, 704, 705, 706, 707, 708, 709, 710, 711, 712, 713, 714, 715, 716, 717] (by decide +kernel) (by decide +kernel)) (goodIn_sub (fun _ h => List.mem_append_left _ (List.mem_append_right _ h)) (by decide +kernel))
set_option maxRecDepth 20000 in
theorem gL_law_X7_move : GoodIn wsL_law (wsV RL 74 RX7 yX7_move wsX7_move) := goodIn_app (goodIn_of _ (by decide +kernel)) ggL_law_X7_move
set_option maxRecDepth 20000 in
theorem ggL_law_L_exchange : GoodIn wsL_law wsL_exchange := goodIn_ca (goodIn_r _ [157, 158, 159, 160, 161, 2, 162, 133, 24, 27, 163, 164, 165, 166, 167, 168, 169, 170, 171, 134, 135, 136, 137, 52, 56, 138, 139, 140, 51, 141, 142, 143, 144, 145, 55, 146, 147, 680, 681, 682, 683, 684, 685, 686, 687, 688, 689, 690, 691, 692, 693, 694, 718, 719, 720, 751, 752, 753, 754, 755, 756, 737, 738, 739, 740, 741, 742, 743, 744, 745, 746, 747, 748, 749, 750] (by decide +kernel) (by decide +kernel)) (goodIn_sub (fun _ h => List.mem_append_left _ (List.mem_append_right _ h)) (by decide +kernel))
set_option maxRecDepth 20000 in
theorem gL_law_L_exchange : GoodIn wsL_law (va_wsS RL 75 yL_exchange wsL_exchange) := goodIn_app (goodIn_of _ (by decide +kernel)) ggL_law_L_exchange
set_option maxRecDepth 20000 in
theorem ggL_law_X7_exchange : GoodIn wsL_law wsX7_exchange := goodIn_ca (goodIn_r _ [175, 113, 114, 154, 176, 177, 178, 5, 179, 153, 180, 181, 182, 183, 127, 184, 185, 186, 187, 152, 695, 696, 697, 698, 699, 700, 701, 702, 703, 704, 705, 706, 707, 708, 709, 710, 711, 712, 713, 714, 715, 716, 717] (by decide +kernel) (by decide +kernel)) (goodIn_sub (fun _ h => List.mem_append_left _ (List.mem_append_right _ h)) (by decide +kernel))
set_option maxRecDepth 20000 in
theorem gL_law_X7_exchange : GoodIn wsL_law (wsV RL 78 RX7 yX7_exchange wsX7_exchange) := goodIn_app (goodIn_of _ (by decide +kernel)) ggL_law_X7_exchange
set_option maxRecDepth 20000 in
theorem ggL_law_X7_thrown : GoodIn wsL_law wsX7_thrown := goodIn_r _ [191, 152, 695, 696, 697, 698, 699, 700, 701, 702, 703, 704, 705, 706, 707, 708, 709, 710, 711, 712, 713, 714, 715, 716, 717] (by decide +kernel) (by decide +kernel)
set_option maxRecDepth 20000 in
theorem gL_law_X7_thrown : GoodIn wsL_law (wsV RL 79 RX7 yX7_thrown wsX7_thrown) := goodIn_app (goodIn_of _ (by decide +kernel)) ggL_law_X7_thrown
set_option maxRecDepth 20000 in
theorem ggL_law_L_adds : GoodIn wsL_law wsL_adds := goodIn_ca (goodIn_ca (goodIn_r _ [194, 158, 195, 196, 197, 198, 2, 199, 200, 201, 133, 24, 25, 27, 163, 164, 165, 166, 167, 168, 134, 135, 136, 137, 52, 56, 138, 139, 140, 51, 141, 142, 143, 144, 145, 55, 146, 147, 680, 681, 682, 683, 684, 685, 686, 687, 688, 689, 690, 691, 692, 693, 694, 718, 719, 720, 751, 752, 753, 754, 755, 756, 737, 738, 739, 740, 741, 742, 743, 744, 745, 746, 747, 748, 749, 750] (by decide +kernel) (by decide +kernel)) (goodIn_sub (fun _ h => List.mem_append_left _ (List.mem_append_right _ h)) (by decide +kernel))) (goodIn_sub (fun _ h => List.mem_append_right _ h) (by decide +kernel))
set_option maxRecDepth 20000 in
theorem gL_law_L_adds : GoodIn wsL_law (va_wsS RL 82 yL_adds wsL_adds) := goodIn_app (goodIn_of _ (by decide +kernel)) ggL_law_L_adds
set_option maxRecDepth 20000 in
theorem ggL_law_X7_adds : GoodIn wsL_law wsX7_adds := goodIn_ca (goodIn_r _ [205, 128, 114, 154, 176, 177, 178, 5, 179, 153, 180, 181, 182, 183, 127, 184, 185, 186, 187, 152, 695, 696, 697, 698, 699, 700, 701, 702, 703, 704, 705, 706, 707, 708, 709, 710, 711, 712, 713, 714, 715, 716, 717] (by decide +kernel) (by decide +kernel)) (goodIn_sub (fun _ h => List.mem_append_left _ (List.mem_append_right _ h)) (by decide +kernel))
set_option maxRecDepth 20000 in
theorem gL_law_X7_adds : GoodIn wsL_law (wsV RL 84 RX7 yX7_adds wsX7_adds) := goodIn_app (goodIn_of _ (by decide +kernel)) ggL_law_X7_adds
set_option maxRecDepth 20000 in
theorem ggL_law_L_order : GoodIn wsL_law wsL_order := goodIn_ca (goodIn_r _ [208, 158, 209, 210, 211, 2, 212, 133, 27, 163, 164, 165, 166, 167, 168, 213, 214, 215, 216, 41, 217, 218, 219, 39, 220, 85, 86, 67, 68, 221, 222, 223, 224, 225, 226, 227, 228, 229, 230, 231, 232, 680, 681, 682, 683, 684, 685, 686, 687, 688, 689, 690, 691, 692, 693, 694, 751, 752, 753, 754, 755, 756, 729, 730, 718, 719, 720] (by decide +kernel) (by decide +kernel)) (goodIn_sub (fun _ h => List.mem_append_left _ (List.mem_append_right _ h)) (by decide +kernel))
set_option maxRecDepth 20000 in
theorem gL_law_L_order : GoodIn wsL_law (va_wsS RL 85 yL_order wsL_order) := goodIn_app (goodIn_of _ (by decide +kernel)) ggL_law_L_order
set_option maxRecDepth 20000 in
theorem ggL_law_X7_order : GoodIn wsL_law wsX7_order := goodIn_ca (goodIn_r _ [236, 176, 177, 178, 5, 179, 153, 184, 185, 186, 187, 152, 237, 238, 239, 240, 127, 114, 113, 128, 695, 696, 697, 698, 699, 700, 701, 702, 703, 704, 705, 706, 707, 708, 709, 710, 711, 712, 713, 714, 715, 716, 717] (by decide +kernel) (by decide +kernel)) (goodIn_sub (fun _ h => List.mem_append_left _ (List.mem_append_right _ h)) (by decide +kernel))
set_option maxRecDepth 20000 in
theorem gL_law_X7_order : GoodIn wsL_law (wsV RL 88 RX7 yX7_order wsX7_order) := goodIn_app (goodIn_of _ (by decide +kernel)) ggL_law_X7_order
set_option maxRecDepth 20000 in
theorem ggL_law_L_choose : GoodIn wsL_law wsL_choose := goodIn_ca (goodIn_r _ [243, 158, 244, 245, 246, 2, 247, 24, 36, 52, 56, 40, 163, 164, 165, 166, 167, 168, 248, 249, 250, 35, 251, 76, 252, 253, 254, 255, 256, 79, 80, 73, 74, 77, 138, 139, 140, 51, 141, 142, 143, 144, 145, 55, 146, 147, 217, 218, 219, 39, 220, 85, 86, 67, 68, 221, 222, 223, 224, 680, 681, 682, 683, 684, 685, 686, 687, 688, 689, 690, 691, 692, 693, 694, 721, 722, 723, 724, 725, 726, 727, 728, 751, 752, 753, 754, 755, 756, 737, 738, 739, 740, 741, 742, 743, 744, 745, 746, 747, 748, 749, 750, 729, 730] (by decide +kernel) (by decide +kernel)) (goodIn_sub (fun _ h => List.mem_append_left _ (List.mem_append_right _ h)) (by decide +kernel))
set_option maxRecDepth 20000 in
theorem gL_law_L_choose : GoodIn wsL_law (va_wsS RL 89 yL_choose wsL_choose) := goodIn_app (goodIn_of _ (by decide +kernel)) ggL_law_L_choose
set_option maxRecDepth 20000 in
theorem ggL_law_X7_choose : GoodIn wsL_law wsX7_choose := goodIn_ca (goodIn_r _ [260, 115, 261, 127, 116, 154, 262, 180, 181, 182, 5, 183, 184, 185, 186, 187, 152, 263, 264, 265, 266, 117, 118, 267, 268, 269, 270, 128, 271, 272, 273, 274, 695, 696, 697, 698, 699, 700, 701, 702, 703, 704, 705, 706, 707, 708, 709, 710, 711, 712, 713, 714, 715, 716, 717] (by decide +kernel) (by decide +kernel)) (goodIn_sub (fun _ h => List.mem_append_left _ (List.mem_append_right _ h)) (by decide +kernel))
set_option maxRecDepth 20000 in
theorem gL_law_X7_choose : GoodIn wsL_law (wsV RL 92 RX7 yX7_choose wsX7_choose) := goodIn_app (goodIn_of _ (by decide +kernel)) ggL_law_X7_choose
set_option maxRecDepth 20000 in
theorem ggL_law_X6_size : GoodIn wsL_law wsX6_size := goodIn_r _ [278, 36, 279, 280, 281, 35, 282, 79, 80, 680, 681, 682, 683, 684, 685, 686, 687, 688, 689, 690, 691, 692, 693, 694, 721, 722, 723, 724, 725, 726, 727, 728] (by decide +kernel) (by decide +kernel)
set_option maxRecDepth 20000 in
theorem gL_law_X6_size : GoodIn wsL_law (wsV RL 93 RX6 yX6_size wsX6_size) := goodIn_app (goodIn_of _ (by decide +kernel)) ggL_law_X6_size
set_option maxRecDepth 20000 in
theorem ggL_law_X7_size : GoodIn wsL_law wsX7_size := goodIn_r _ [286, 152, 287, 288, 289, 5, 290, 261, 127, 128, 695, 696, 697, 698, 699, 700, 701, 702, 703, 704, 705, 706, 707, 708, 709, 710, 711, 712, 713, 714, 715, 716, 717] (by decide +kernel) (by decide +kernel)
set_option maxRecDepth 20000 in
theorem gL_law_X7_size : GoodIn wsL_law (wsV RL 96 RX7 yX7_size wsX7_size) := goodIn_app (goodIn_of _ (by decide +kernel)) ggL_law_X7_size
set_option maxRecDepth 20000 in
theorem ggL_law_L_set : GoodIn wsL_law wsL_set := goodIn_ca (goodIn_r _ [293, 158, 294, 295, 296, 2, 297, 36, 40, 279, 280, 281, 35, 282, 79, 80, 163, 164, 165, 166, 167, 168, 298, 299, 300, 301, 302, 303, 304, 305, 256, 77, 74, 306, 307, 308, 309, 78, 73, 310, 311, 312, 313, 680, 681, 682, 683, 684, 685, 686, 687, 688, 689, 690, 691, 692, 693, 694, 721, 722, 723, 724, 725, 726, 727, 728, 751, 752, 753, 754, 755, 756, 729, 730] (by decide +kernel) (by decide +kernel)) (goodIn_sub (fun _ h => List.mem_append_left _ (List.mem_append_right _ h)) (by decide +kernel))
set_option maxRecDepth 20000 in
theorem gL_law_L_set : GoodIn wsL_law (va_wsS RL 97 yL_set wsL_set) := goodIn_app (goodIn_of _ (by decide +kernel)) ggL_law_L_set
set_option maxRecDepth 20000 in
theorem ggL_law_X7_set : GoodIn wsL_law wsX7_set := goodIn_r _ [317, 262, 318, 319, 320, 5, 321, 287, 288, 289, 290, 261, 127, 128, 184, 185, 186, 187, 152, 695, 696, 697, 698, 699, 700, 701, 702, 703, 704, 705, 706, 707, 708, 709, 710, 711, 712, 713, 714, 715, 716, 717] (by decide +kernel) (by decide +kernel)
set_option maxRecDepth 20000 in
theorem gL_law_X7_set : GoodIn wsL_law (wsV RL 100 RX7 yX7_set wsX7_set) := goodIn_app (goodIn_of _ (by decide +kernel)) ggL_law_X7_set
set_option maxRecDepth 20000 in
theorem ggL_law_X6_number : GoodIn wsL_law wsX6_number := goodIn_ca (goodIn_r _ [325, 36, 40, 326, 327, 328, 35, 329, 256, 77, 73, 74, 330, 331, 332, 333, 334, 335, 336, 680, 681, 682, 683, 684, 685, 686, 687, 688, 689, 690, 691, 692, 693, 694, 721, 722, 723, 724, 725, 726, 727, 728, 729, 730] (by decide +kernel) (by decide +kernel)) (goodIn_sub (fun _ h => List.mem_append_left _ (List.mem_append_right _ h)) (by decide +kernel))
set_option maxRecDepth 20000 in
theorem gL_law_X6_number : GoodIn wsL_law (wsV RL 101 RX6 yX6_number wsX6_number) := goodIn_app (goodIn_of _ (by decide +kernel)) ggL_law_X6_number
set_option maxRecDepth 20000 in
theorem ggL_law_X7_number : GoodIn wsL_law wsX7_number := goodIn_r _ [340, 152, 262, 695, 696, 697, 698, 699, 700, 701, 702, 703, 704, 705, 706, 707, 708, 709, 710, 711, 712, 713, 714, 715, 716, 717] (by decide +kernel) (by decide +kernel)
set_option maxRecDepth 20000 in
theorem gL_law_X7_number : GoodIn wsL_law (wsV RL 104 RX7 yX7_number wsX7_number) := goodIn_app (goodIn_of _ (by decide +kernel)) ggL_law_X7_number
set_option maxRecDepth 20000 in
theorem ggL_law_L_place : GoodIn wsL_law wsL_place := goodIn_ca (goodIn_r _ [343, 158, 344, 345, 346, 2, 347, 24, 36, 40, 163, 164, 165, 166, 167, 168, 248, 249, 250, 35, 251, 76, 680, 681, 682, 683, 684, 685, 686, 687, 688, 689, 690, 691, 692, 693, 694, 729, 730, 751, 752, 753, 754, 755, 756, 721, 722, 723, 724, 725, 726, 727, 728] (by decide +kernel) (by decide +kernel)) (goodIn_sub (fun _ h => List.mem_append_left _ (List.mem_append_right _ h)) (by decide +kernel))
set_option maxRecDepth 20000 in
theorem gL_law_L_place : GoodIn wsL_law (va_wsS RL 105 yL_place wsL_place) := goodIn_app (goodIn_of _ (by decide +kernel)) ggL_law_L_place
set_option maxRecDepth 20000 in
theorem ggL_law_X7_place : GoodIn wsL_law wsX7_place := goodIn_ca (goodIn_r _ [351, 262, 117, 180, 181, 182, 5, 183, 127, 184, 185, 186, 187, 152, 352, 353, 354, 355, 261, 118, 128, 271, 272, 273, 274, 356, 357, 358, 359, 116, 695, 696, 697, 698, 699, 700, 701, 702, 703, 704, 705, 706, 707, 708, 709, 710, 711, 712, 713, 714, 715, 716, 717] (by decide +kernel) (by decide +kernel)) (goodIn_sub (fun _ h => List.mem_append_left _ (List.mem_append_right _ h)) (by decide +kernel))
set_option maxRecDepth 20000 in
theorem gL_law_X7_place : GoodIn wsL_law (wsV RL 107 RX7 yX7_place wsX7_place) := goodIn_app (goodIn_of _ (by decide +kernel)) ggL_law_X7_place
set_option maxRecDepth 20000 in
theorem ggL_law_L_twist : GoodIn wsL_law wsL_twist := goodIn_ca (goodIn_r _ [362, 158, 363, 364, 365, 2, 366, 24, 36, 40, 163, 164, 165, 166, 167, 168, 248, 249, 250, 35, 251, 76, 680, 681, 682, 683, 684, 685, 686, 687, 688, 689, 690, 691, 692, 693, 694, 729, 730, 751, 752, 753, 754, 755, 756, 721, 722, 723, 724, 725, 726, 727, 728] (by decide +kernel) (by decide +kernel)) (goodIn_sub (fun _ h => List.mem_append_left _ (List.mem_append_right _ h)) (by decide +kernel))
set_option maxRecDepth 20000 in
theorem gL_law_L_twist : GoodIn wsL_law (va_wsS RL 108 yL_twist wsL_twist) := goodIn_app (goodIn_of _ (by decide +kernel)) ggL_law_L_twist
set_option maxRecDepth 20000 in
theorem ggL_law_X7_twist : GoodIn wsL_law wsX7_twist := goodIn_ca (goodIn_r _ [370, 262, 118, 180, 181, 182, 5, 183, 127, 184, 185, 186, 187, 152, 352, 353, 354, 355, 261, 128, 117, 271, 272, 273, 274, 356, 357, 358, 359, 116, 695, 696, 697, 698, 699, 700, 701, 702, 703, 704, 705, 706, 707, 708, 709, 710, 711, 712, 713, 714, 715, 716, 717] (by decide +kernel) (by decide +kernel)) (goodIn_sub (fun _ h => List.mem_append_left _ (List.mem_append_right _ h)) (by decide +kernel))
set_option maxRecDepth 20000 in
theorem gL_law_X7_twist : GoodIn wsL_law (wsV RL 110 RX7 yX7_twist wsX7_twist) := goodIn_app (goodIn_of _ (by decide +kernel)) ggL_law_X7_twist
set_option maxRecDepth 20000 in
theorem ggL_law_L_apply : GoodIn wsL_law wsL_apply := goodIn_ca (goodIn_r _ [373, 158, 374, 375, 376, 2, 377, 133, 40, 27, 163, 164, 165, 166, 167, 168, 225, 226, 227, 39, 228, 85, 86, 680, 681, 682, 683, 684, 685, 686, 687, 688, 689, 690, 691, 692, 693, 694, 751, 752, 753, 754, 755, 756, 729, 730, 718, 719, 720] (by decide +kernel) (by decide +kernel)) (goodIn_sub (fun _ h => List.mem_append_left _ (List.mem_append_right _ h)) (by decide +kernel))
set_option maxRecDepth 20000 in
theorem gL_law_L_apply : GoodIn wsL_law (va_wsS RL 111 yL_apply wsL_apply) := goodIn_app (goodIn_of _ (by decide +kernel)) ggL_law_L_apply
set_option maxRecDepth 20000 in
theorem ggL_law_X7_apply : GoodIn wsL_law wsX7_apply := goodIn_ca (goodIn_r _ [381, 262, 176, 177, 178, 5, 179, 153, 184, 185, 186, 187, 152, 352, 353, 354, 355, 261, 118, 128, 117, 127, 271, 272, 273, 274, 382, 383, 384, 385, 114, 113, 267, 268, 269, 270, 695, 696, 697, 698, 699, 700, 701, 702, 703, 704, 705, 706, 707, 708, 709, 710, 711, 712, 713, 714, 715, 716, 717] (by decide +kernel) (by decide +kernel)) (goodIn_sub (fun _ h => List.mem_append_left _ (List.mem_append_right _ h)) (by decide +kernel))
set_option maxRecDepth 20000 in
theorem gL_law_X7_apply : GoodIn wsL_law (wsV RL 113 RX7 yX7_apply wsX7_apply) := goodIn_app (goodIn_of _ (by decide +kernel)) ggL_law_X7_apply
set_option maxRecDepth 20000 in
theorem ggL_law_X6_build : GoodIn wsL_law wsX6_build := goodIn_ca (goodIn_r _ [389, 48, 36, 133, 43, 27, 41, 44, 52, 390, 391, 392, 47, 393, 394, 91, 92, 93, 94, 95, 395, 2, 396, 31, 397, 398, 399, 35, 400, 256, 74, 401, 402, 403, 29, 404, 62, 63, 61, 405, 406, 407, 408, 409, 299, 300, 301, 80, 302, 303, 304, 305, 77, 306, 307, 308, 309, 78, 73, 310, 311, 312, 313, 410, 226, 227, 39, 228, 85, 86, 411, 327, 328, 329, 330, 331, 332, 333, 334, 335, 336, 412, 413, 414, 415, 213, 214, 215, 216, 217, 218, 219, 220, 67, 68, 221, 222, 223, 224, 225, 229, 230, 231, 232, 326, 416, 417, 418, 51, 419, 142, 420, 421, 100, 101, 422, 423, 280, 281, 282, 79, 424, 425, 426, 427, 428, 429, 430, 431, 432, 433, 167, 168, 434, 435, 436, 437, 438, 439, 440, 441, 680, 681, 682, 683, 684, 685, 686, 687, 688, 689, 690, 691, 692, 693, 694, 731, 732, 733, 734, 735, 736, 721, 722, 723, 724, 725, 726, 727, 728, 718, 719, 720, 729, 730, 737, 738, 739, 740, 741, 742, 757, 758, 759, 760, 751, 752, 753, 754, 755, 756] (by decide +kernel) (by decide +kernel)) (goodIn_sub (fun _ h => List.mem_append_left _ (List.mem_append_right _ h)) (by decide +kernel))
set_option maxRecDepth 20000 in
theorem gL_law_X6_build : GoodIn wsL_law (wsV RL 114 RX6 yX6_build wsX6_build) := goodIn_app (goodIn_of _ (by decide +kernel)) ggL_law_X6_build
set_option maxRecDepth 20000 in
theorem ggL_law_X7_build : GoodIn wsL_law wsX7_build := goodIn_ca (goodIn_r _ [445, 152, 446, 120, 121, 153, 154, 447, 287, 288, 289, 5, 290, 261, 127, 128, 263, 264, 265, 266, 117, 116, 118, 267, 268, 269, 270, 271, 272, 273, 274, 448, 449, 450, 451, 237, 238, 239, 240, 114, 113, 352, 353, 354, 355, 452, 453, 454, 455, 695, 696, 697, 698, 699, 700, 701, 702, 703, 704, 705, 706, 707, 708, 709, 710, 711, 712, 713, 714, 715, 716, 717] (by decide +kernel) (by decide +kernel)) (goodIn_sub (fun _ h => List.mem_append_left _ (List.mem_append_right _ h)) (by decide +kernel))
set_option maxRecDepth 20000 in
theorem gL_law_X7_build : GoodIn wsL_law (wsV RL 117 RX7 yX7_build wsX7_build) := goodIn_app (goodIn_of _ (by decide +kernel)) ggL_law_X7_build
set_option maxRecDepth 20000 in
theorem ggL_law_L_value : GoodIn wsL_law wsL_value := goodIn_ca (goodIn_r _ [458, 158, 459, 460, 461, 2, 462, 36, 52, 279, 280, 281, 35, 282, 79, 80, 163, 164, 165, 166, 167, 168, 463, 464, 465, 51, 466, 142, 100, 680, 681, 682, 683, 684, 685, 686, 687, 688, 689, 690, 691, 692, 693, 694, 721, 722, 723, 724, 725, 726, 727, 728, 751, 752, 753, 754, 755, 756, 737, 738, 739, 740, 741, 742] (by decide +kernel) (by decide +kernel)) (goodIn_sub (fun _ h => List.mem_append_left _ (List.mem_append_right _ h)) (by decide +kernel))
set_option maxRecDepth 20000 in
theorem gL_law_L_value : GoodIn wsL_law (va_wsS RL 118 yL_value wsL_value) := goodIn_app (goodIn_of _ (by decide +kernel)) ggL_law_L_value
set_option maxRecDepth 20000 in
theorem ggL_law_X7_value : GoodIn wsL_law wsX7_value := goodIn_ca (goodIn_r _ [470, 154, 120, 318, 319, 320, 5, 321, 287, 288, 289, 290, 261, 127, 128, 184, 185, 186, 187, 152, 695, 696, 697, 698, 699, 700, 701, 702, 703, 704, 705, 706, 707, 708, 709, 710, 711, 712, 713, 714, 715, 716, 717] (by decide +kernel) (by decide +kernel)) (goodIn_sub (fun _ h => List.mem_append_left _ (List.mem_append_right _ h)) (by decide +kernel))
set_option maxRecDepth 20000 in
theorem gL_law_X7_value : GoodIn wsL_law (wsV RL 120 RX7 yX7_value wsX7_value) := goodIn_app (goodIn_of _ (by decide +kernel)) ggL_law_X7_value
set_option maxRecDepth 20000 in
theorem ggL_law_X6_count : GoodIn wsL_law wsX6_count := goodIn_ca (goodIn_r _ [474, 52, 475, 476, 477, 51, 478, 421, 422, 100, 101, 479, 480, 481, 482, 680, 681, 682, 683, 684, 685, 686, 687, 688, 689, 690, 691, 692, 693, 694, 737, 738, 739, 740, 741, 742] (by decide +kernel) (by decide +kernel)) (goodIn_sub (fun _ h => List.mem_append_left _ (List.mem_append_right _ h)) (by decide +kernel))
set_option maxRecDepth 20000 in
theorem gL_law_X6_count : GoodIn wsL_law (wsV RL 121 RX6 yX6_count wsX6_count) := goodIn_app (goodIn_of _ (by decide +kernel)) ggL_law_X6_count
set_option maxRecDepth 20000 in
theorem ggL_law_X7_count : GoodIn wsL_law wsX7_count := goodIn_ca (goodIn_r _ [486, 152, 154, 446, 120, 695, 696, 697, 698, 699, 700, 701, 702, 703, 704, 705, 706, 707, 708, 709, 710, 711, 712, 713, 714, 715, 716, 717] (by decide +kernel) (by decide +kernel)) (goodIn_sub (fun _ h => List.mem_append_left _ (List.mem_append_right _ h)) (by decide +kernel))
set_option maxRecDepth 20000 in
theorem gL_law_X7_count : GoodIn wsL_law (wsV RL 124 RX7 yX7_count wsX7_count) := goodIn_app (goodIn_of _ (by decide +kernel)) ggL_law_X7_count
set_option maxRecDepth 20000 in
theorem ggL_law_L_packed : GoodIn wsL_law wsL_packed := goodIn_ca (goodIn_ca (goodIn_r _ [489, 195, 490, 491, 492, 2, 493, 200, 201, 52, 494, 495, 496, 51, 497, 421, 498, 499, 500, 501, 100, 502, 503, 504, 505, 506, 18, 19, 20, 680, 681, 682, 683, 684, 685, 686, 687, 688, 689, 690, 691, 692, 693, 694, 737, 738, 739, 740, 741, 742] (by decide +kernel) (by decide +kernel)) (goodIn_sub (fun _ h => List.mem_append_left _ (List.mem_append_right _ h)) (by decide +kernel))) (goodIn_sub (fun _ h => List.mem_append_right _ h) (by decide +kernel))
set_option maxRecDepth 20000 in
theorem gL_law_L_packed : GoodIn wsL_law (va_wsS RL 125 yL_packed wsL_packed) := goodIn_app (goodIn_of _ (by decide +kernel)) ggL_law_L_packed
set_option maxRecDepth 20000 in
theorem ggL_law_X7_packed : GoodIn wsL_law wsX7_packed := goodIn_ca (goodIn_r _ [510, 154, 119, 446, 184, 185, 186, 5, 187, 152, 511, 512, 513, 514, 120, 695, 696, 697, 698, 699, 700, 701, 702, 703, 704, 705, 706, 707, 708, 709, 710, 711, 712, 713, 714, 715, 716, 717] (by decide +kernel) (by decide +kernel)) (goodIn_sub (fun _ h => List.mem_append_left _ (List.mem_append_right _ h)) (by decide +kernel))
set_option maxRecDepth 20000 in
theorem gL_law_X7_packed : GoodIn wsL_law (wsV RL 128 RX7 yX7_packed wsX7_packed) := goodIn_app (goodIn_of _ (by decide +kernel)) ggL_law_X7_packed
set_option maxRecDepth 20000 in
theorem ggL_law_X6_down : GoodIn wsL_law wsX6_down := goodIn_ca (goodIn_r _ [518, 52, 36, 40, 133, 326, 327, 328, 35, 329, 256, 77, 73, 74, 330, 331, 332, 333, 334, 335, 336, 463, 464, 465, 51, 466, 142, 100, 519, 520, 521, 2, 522, 41, 27, 412, 413, 414, 415, 213, 214, 215, 216, 217, 218, 219, 39, 220, 85, 86, 67, 68, 221, 222, 223, 224, 225, 226, 227, 228, 229, 230, 231, 232, 523, 524, 525, 526, 680, 681, 682, 683, 684, 685, 686, 687, 688, 689, 690, 691, 692, 693, 694, 721, 722, 723, 724, 725, 726, 727, 728, 729, 730, 737, 738, 739, 740, 741, 742, 718, 719, 720] (by decide +kernel) (by decide +kernel)) (goodIn_sub (fun _ h => List.mem_append_left _ (List.mem_append_right _ h)) (by decide +kernel))
set_option maxRecDepth 20000 in
theorem gL_law_X6_down : GoodIn wsL_law (wsV RL 129 RX6 yX6_down wsX6_down) := goodIn_app (goodIn_of _ (by decide +kernel)) ggL_law_X6_down
set_option maxRecDepth 20000 in
theorem ggL_law_X7_down : GoodIn wsL_law wsX7_down := goodIn_ca (goodIn_r _ [530, 152, 154, 120, 262, 153, 447, 448, 449, 450, 5, 451, 237, 238, 239, 240, 127, 114, 113, 128, 352, 353, 354, 355, 261, 118, 117, 271, 272, 273, 274, 382, 383, 384, 385, 267, 268, 269, 270, 695, 696, 697, 698, 699, 700, 701, 702, 703, 704, 705, 706, 707, 708, 709, 710, 711, 712, 713, 714, 715, 716, 717] (by decide +kernel) (by decide +kernel)) (goodIn_sub (fun _ h => List.mem_append_left _ (List.mem_append_right _ h)) (by decide +kernel))
set_option maxRecDepth 20000 in
theorem gL_law_X7_down : GoodIn wsL_law (wsV RL 132 RX7 yX7_down wsX7_down) := goodIn_app (goodIn_of _ (by decide +kernel)) ggL_law_X7_down
set_option maxRecDepth 20000 in
theorem ggL_law_X6_symmetry : GoodIn wsL_law wsX6_symmetry := goodIn_ca (goodIn_r _ [534, 535, 32, 56, 66, 67, 2, 68, 143, 144, 145, 55, 146, 147, 680, 681, 682, 683, 684, 685, 686, 687, 688, 689, 690, 691, 692, 693, 694, 743, 744, 745, 746, 747, 748, 749, 750] (by decide +kernel) (by decide +kernel)) (goodIn_sub (fun _ h => List.mem_append_left _ (List.mem_append_right _ h)) (by decide +kernel))
set_option maxRecDepth 20000 in
theorem gL_law_X6_symmetry : GoodIn wsL_law (wsV RL 133 RX6 yX6_symmetry wsX6_symmetry) := goodIn_app (goodIn_of _ (by decide +kernel)) ggL_law_X6_symmetry
set_option maxRecDepth 20000 in
theorem ggL_law_X7_symmetry : GoodIn wsL_law wsX7_symmetry := goodIn_ca (goodIn_r _ [539, 152, 540, 123, 695, 696, 697, 698, 699, 700, 701, 702, 703, 704, 705, 706, 707, 708, 709, 710, 711, 712, 713, 714, 715, 716, 717] (by decide +kernel) (by decide +kernel)) (goodIn_sub (fun _ h => List.mem_append_left _ (List.mem_append_right _ h)) (by decide +kernel))
set_option maxRecDepth 20000 in
theorem gL_law_X7_symmetry : GoodIn wsL_law (wsV RL 136 RX7 yX7_symmetry wsX7_symmetry) := goodIn_app (goodIn_of _ (by decide +kernel)) ggL_law_X7_symmetry
set_option maxRecDepth 20000 in
theorem ggL_law_L_turn : GoodIn wsL_law wsL_turn := goodIn_ca (goodIn_r _ [543, 158, 544, 545, 546, 2, 547, 535, 24, 32, 56, 163, 164, 165, 166, 167, 168, 169, 170, 171, 143, 144, 145, 55, 146, 147, 680, 681, 682, 683, 684, 685, 686, 687, 688, 689, 690, 691, 692, 693, 694, 751, 752, 753, 754, 755, 756, 743, 744, 745, 746, 747, 748, 749, 750] (by decide +kernel) (by decide +kernel)) (goodIn_sub (fun _ h => List.mem_append_left _ (List.mem_append_right _ h)) (by decide +kernel))
set_option maxRecDepth 20000 in
theorem gL_law_L_turn : GoodIn wsL_law (va_wsS RL 137 yL_turn wsL_turn) := goodIn_app (goodIn_of _ (by decide +kernel)) ggL_law_L_turn
set_option maxRecDepth 20000 in
theorem ggL_law_X7_turn : GoodIn wsL_law wsX7_turn := goodIn_ca (goodIn_r _ [551, 540, 123, 180, 181, 182, 5, 183, 127, 184, 185, 186, 187, 152, 695, 696, 697, 698, 699, 700, 701, 702, 703, 704, 705, 706, 707, 708, 709, 710, 711, 712, 713, 714, 715, 716, 717] (by decide +kernel) (by decide +kernel)) (goodIn_sub (fun _ h => List.mem_append_left _ (List.mem_append_right _ h)) (by decide +kernel))
set_option maxRecDepth 20000 in
theorem gL_law_X7_turn : GoodIn wsL_law (wsV RL 139 RX7 yX7_turn wsX7_turn) := goodIn_app (goodIn_of _ (by decide +kernel)) ggL_law_X7_turn
set_option maxRecDepth 20000 in
theorem ggL_law_L_good : GoodIn wsL_law wsL_good := goodIn_ca (goodIn_r _ [554, 158, 555, 556, 557, 2, 558, 535, 32, 163, 164, 165, 166, 167, 168, 559, 560, 561, 562, 24, 36, 133, 27, 248, 249, 250, 35, 251, 76, 563, 564, 565, 566, 567, 568, 569, 29, 570, 62, 63, 680, 681, 682, 683, 684, 685, 686, 687, 688, 689, 690, 691, 692, 693, 694, 751, 752, 753, 754, 755, 756, 721, 722, 723, 724, 725, 726, 727, 728, 718, 719, 720] (by decide +kernel) (by decide +kernel)) (goodIn_sub (fun _ h => List.mem_append_left _ (List.mem_append_right _ h)) (by decide +kernel))
set_option maxRecDepth 20000 in
theorem gL_law_L_good : GoodIn wsL_law (va_wsS RL 140 yL_good wsL_good) := goodIn_app (goodIn_of _ (by decide +kernel)) ggL_law_L_good
set_option maxRecDepth 20000 in
theorem ggL_law_X7_good : GoodIn wsL_law wsX7_good := goodIn_ca (goodIn_r _ [574, 540, 184, 185, 186, 5, 187, 152, 575, 576, 577, 578, 127, 115, 123, 153, 579, 580, 581, 582, 113, 114, 695, 696, 697, 698, 699, 700, 701, 702, 703, 704, 705, 706, 707, 708, 709, 710, 711, 712, 713, 714, 715, 716, 717] (by decide +kernel) (by decide +kernel)) (goodIn_sub (fun _ h => List.mem_append_left _ (List.mem_append_right _ h)) (by decide +kernel))
set_option maxRecDepth 20000 in
theorem gL_law_X7_good : GoodIn wsL_law (wsV RL 142 RX7 yX7_good wsX7_good) := goodIn_app (goodIn_of _ (by decide +kernel)) ggL_law_X7_good
set_option maxRecDepth 20000 in
theorem ggL_law_L_least : GoodIn wsL_law wsL_least := goodIn_ca (goodIn_r _ [585, 158, 586, 587, 588, 2, 589, 36, 56, 279, 280, 281, 35, 282, 79, 80, 163, 164, 165, 166, 167, 168, 590, 591, 592, 593, 535, 32, 41, 42, 594, 595, 596, 55, 597, 598, 599, 600, 106, 107, 108, 601, 602, 395, 396, 31, 67, 68, 559, 560, 561, 562, 24, 133, 27, 248, 249, 250, 251, 76, 563, 564, 565, 566, 567, 568, 569, 29, 570, 62, 63, 603, 604, 605, 606, 607, 299, 300, 301, 302, 303, 304, 305, 256, 77, 74, 306, 307, 308, 309, 78, 73, 310, 311, 312, 313, 608, 609, 610, 39, 611, 85, 86, 612, 327, 328, 329, 330, 331, 332, 333, 334, 335, 336, 613, 614, 615, 616, 617, 618, 619, 620, 621, 22, 19, 23, 622, 18, 20, 623, 624, 625, 626, 627, 680, 681, 682, 683, 684, 685, 686, 687, 688, 689, 690, 691, 692, 693, 694, 721, 722, 723, 724, 725, 726, 727, 728, 751, 752, 753, 754, 755, 756, 743, 744, 745, 746, 747, 748, 749, 750, 718, 719, 720, 729, 730] (by decide +kernel) (by decide +kernel)) (goodIn_sub (fun _ h => List.mem_append_left _ (List.mem_append_right _ h)) (by decide +kernel))
set_option maxRecDepth 20000 in
theorem gL_law_L_least : GoodIn wsL_law (va_wsS RL 143 yL_least wsL_least) := goodIn_app (goodIn_of _ (by decide +kernel)) ggL_law_L_least
set_option maxRecDepth 20000 in
theorem ggL_law_X7_least : GoodIn wsL_law wsX7_least := goodIn_ca (goodIn_r _ [631, 318, 319, 320, 5, 321, 287, 288, 289, 290, 261, 127, 128, 184, 185, 186, 187, 152, 632, 633, 634, 635, 540, 126, 122, 575, 576, 577, 578, 115, 123, 153, 579, 580, 581, 582, 113, 114, 636, 637, 638, 639, 121, 640, 641, 642, 643, 124, 117, 125, 118, 116, 352, 353, 354, 355, 271, 272, 273, 274, 356, 357, 358, 359, 267, 268, 269, 270, 695, 696, 697, 698, 699, 700, 701, 702, 703, 704, 705, 706, 707, 708, 709, 710, 711, 712, 713, 714, 715, 716, 717] (by decide +kernel) (by decide +kernel)) (goodIn_sub (fun _ h => List.mem_append_left _ (List.mem_append_right _ h)) (by decide +kernel))
set_option maxRecDepth 20000 in
theorem gL_law_X7_least : GoodIn wsL_law (wsV RL 145 RX7 yX7_least wsX7_least) := goodIn_app (goodIn_of _ (by decide +kernel)) ggL_law_X7_least
set_option maxRecDepth 20000 in
theorem ggL_law_X6_classes : GoodIn wsL_law wsX6_classes := goodIn_ca (goodIn_r _ [647, 56, 590, 591, 592, 2, 593, 36, 535, 32, 41, 42, 594, 595, 596, 55, 597, 598, 599, 600, 106, 107, 108, 601, 602, 280, 281, 35, 282, 79, 80, 395, 396, 31, 67, 68, 559, 560, 561, 562, 24, 133, 27, 248, 249, 250, 251, 76, 563, 564, 565, 566, 567, 568, 569, 29, 570, 62, 63, 603, 604, 605, 606, 607, 299, 300, 301, 302, 303, 304, 305, 256, 77, 74, 306, 307, 308, 309, 78, 73, 310, 311, 312, 313, 608, 609, 610, 39, 611, 85, 86, 612, 327, 328, 329, 330, 331, 332, 333, 334, 335, 336, 613, 614, 615, 616, 617, 618, 619, 620, 621, 22, 19, 23, 622, 18, 20, 623, 624, 625, 626, 680, 681, 682, 683, 684, 685, 686, 687, 688, 689, 690, 691, 692, 693, 694, 743, 744, 745, 746, 747, 748, 749, 750, 721, 722, 723, 724, 725, 726, 727, 728, 718, 719, 720, 729, 730] (by decide +kernel) (by decide +kernel)) (goodIn_sub (fun _ h => List.mem_append_left _ (List.mem_append_right _ h)) (by decide +kernel))
set_option maxRecDepth 20000 in
theorem gL_law_X6_classes : GoodIn wsL_law (wsV RL 146 RX6 yX6_classes wsX6_classes) := goodIn_app (goodIn_of _ (by decide +kernel)) ggL_law_X6_classes
set_option maxRecDepth 20000 in
theorem ggL_law_X7_classes : GoodIn wsL_law wsX7_classes := goodIn_ca (goodIn_r _ [651, 152, 122, 632, 633, 634, 5, 635, 540, 126, 575, 576, 577, 578, 127, 115, 123, 153, 579, 580, 581, 582, 113, 114, 287, 288, 289, 290, 261, 128, 636, 637, 638, 639, 121, 640, 641, 642, 643, 124, 117, 125, 118, 116, 352, 353, 354, 355, 271, 272, 273, 274, 356, 357, 358, 359, 267, 268, 269, 270, 695, 696, 697, 698, 699, 700, 701, 702, 703, 704, 705, 706, 707, 708, 709, 710, 711, 712, 713, 714, 715, 716, 717] (by decide +kernel) (by decide +kernel)) (goodIn_sub (fun _ h => List.mem_append_left _ (List.mem_append_right _ h)) (by decide +kernel))
set_option maxRecDepth 20000 in
theorem gL_law_X7_classes : GoodIn wsL_law (wsV RL 149 RX7 yX7_classes wsX7_classes) := goodIn_app (goodIn_of _ (by decide +kernel)) ggL_law_X7_classes
set_option maxRecDepth 20000 in
theorem ggL_law_X6_file : GoodIn wsL_law wsX6_file := goodIn_ca (goodIn_r _ [655, 52, 656, 657, 658, 51, 659, 421, 660, 661, 662, 2, 663, 24, 25, 36, 664, 665, 666, 667, 502, 503, 504, 505, 100, 506, 18, 19, 20, 668, 669, 670, 671, 680, 681, 682, 683, 684, 685, 686, 687, 688, 689, 690, 691, 692, 693, 694, 737, 738, 739, 740, 741, 742, 721, 722, 723, 724, 725, 726, 727, 728] (by decide +kernel) (by decide +kernel)) (goodIn_sub (fun _ h => List.mem_append_left _ (List.mem_append_right _ h)) (by decide +kernel))
set_option maxRecDepth 20000 in
theorem gL_law_X6_file : GoodIn wsL_law (wsV RL 150 RX6 yX6_file wsX6_file) := goodIn_app (goodIn_of _ (by decide +kernel)) ggL_law_X6_file
set_option maxRecDepth 20000 in
theorem ggL_law_X7_file : GoodIn wsL_law wsX7_file := goodIn_ca (goodIn_r _ [675, 152, 446, 154, 676, 677, 678, 5, 679, 127, 128, 261, 447, 511, 512, 513, 514, 120, 695, 696, 697, 698, 699, 700, 701, 702, 703, 704, 705, 706, 707, 708, 709, 710, 711, 712, 713, 714, 715, 716, 717] (by decide +kernel) (by decide +kernel)) (goodIn_sub (fun _ h => List.mem_append_left _ (List.mem_append_right _ h)) (by decide +kernel))
set_option maxRecDepth 20000 in
theorem gL_law_X7_file : GoodIn wsL_law (wsV RL 153 RX7 yX7_file wsX7_file) := goodIn_app (goodIn_of _ (by decide +kernel)) ggL_law_X7_file
theorem dL_law_0 : decode cL_law 0 = .ok (.new 8, 3) := by decide +kernel
theorem dL_law_3 : decode cL_law 3 = .ok (.dup, 1) := by decide +kernel
theorem dL_law_4 : decode cL_law 4 = .ok (.aload_n 0, 1) := by decide +kernel
theorem dL_law_5 : decode cL_law 5 = .ok (.iconst 0, 1) := by decide +kernel
theorem dL_law_6 : decode cL_law 6 = .ok (.invokestatic 58, 3) := by decide +kernel
theorem dL_law_9 : decode cL_law 9 = .ok (.aload_n 0, 1) := by decide +kernel
theorem dL_law_10 : decode cL_law 10 = .ok (.iconst 1, 1) := by decide +kernel
theorem dL_law_11 : decode cL_law 11 = .ok (.invokestatic 58, 3) := by decide +kernel
theorem dL_law_14 : decode cL_law 14 = .ok (.invokespecial 64, 3) := by decide +kernel
theorem dL_law_17 : decode cL_law 17 = .ok (.astore_n 1, 1) := by decide +kernel
theorem dL_law_18 : decode cL_law 18 = .ok (.new 67, 3) := by decide +kernel
theorem dL_law_21 : decode cL_law 21 = .ok (.dup, 1) := by decide +kernel
theorem dL_law_22 : decode cL_law 22 = .ok (.aload_n 0, 1) := by decide +kernel
theorem dL_law_23 : decode cL_law 23 = .ok (.iconst 0, 1) := by decide +kernel
theorem dL_law_24 : decode cL_law 24 = .ok (.invokestatic 58, 3) := by decide +kernel
theorem dL_law_27 : decode cL_law 27 = .ok (.aload_n 0, 1) := by decide +kernel
theorem dL_law_28 : decode cL_law 28 = .ok (.iconst 1, 1) := by decide +kernel
theorem dL_law_29 : decode cL_law 29 = .ok (.invokestatic 58, 3) := by decide +kernel
theorem dL_law_32 : decode cL_law 32 = .ok (.invokespecial 69, 3) := by decide +kernel
theorem dL_law_35 : decode cL_law 35 = .ok (.astore_n 2, 1) := by decide +kernel
theorem dL_law_36 : decode cL_law 36 = .ok (.iconst 1, 1) := by decide +kernel
theorem dL_law_37 : decode cL_law 37 = .ok (.newarray .long, 2) := by decide +kernel
theorem dL_law_39 : decode cL_law 39 = .ok (.astore_n 3, 1) := by decide +kernel
theorem dL_law_40 : decode cL_law 40 = .ok (.iconst 2, 1) := by decide +kernel
theorem dL_law_41 : decode cL_law 41 = .ok (.istore 4, 2) := by decide +kernel
theorem dL_law_43 : decode cL_law 43 = .ok (.iload 4, 2) := by decide +kernel
theorem dL_law_45 : decode cL_law 45 = .ok (.aload_n 0, 1) := by decide +kernel
theorem dL_law_46 : decode cL_law 46 = .ok (.arraylength, 1) := by decide +kernel
theorem dL_law_47 : decode cL_law 47 = .ok (.iconst 4, 1) := by decide +kernel
theorem dL_law_48 : decode cL_law 48 = .ok (.isub, 1) := by decide +kernel
theorem dL_law_49 : decode cL_law 49 = .ok (.if_icmp .gt 1104, 3) := by decide +kernel
theorem dL_law_52 : decode cL_law 52 = .ok (.aload_n 0, 1) := by decide +kernel
theorem dL_law_53 : decode cL_law 53 = .ok (.iload 4, 2) := by decide +kernel
theorem dL_law_55 : decode cL_law 55 = .ok (.iaload, 1) := by decide +kernel
theorem dL_law_56 : decode cL_law 56 = .ok (.bipush 31, 2) := by decide +kernel
theorem dL_law_58 : decode cL_law 58 = .ok (.iand, 1) := by decide +kernel
theorem dL_law_59 : decode cL_law 59 = .ok (.tableswitch 1088 0 21 #[101, 114, 201, 288, 344, 435, 448, 484, 497, 553, 609, 645, 670, 726, 751, 818, 831, 844, 931, 994, 1050, 1063], 101) := by decide +kernel
theorem dL_law_160 : decode cL_law 160 = .ok (.aload_n 1, 1) := by decide +kernel
theorem dL_law_161 : decode cL_law 161 = .ok (.invokevirtual 70, 3) := by decide +kernel
theorem dL_law_164 : decode cL_law 164 = .ok (.aload_n 2, 1) := by decide +kernel
theorem dL_law_165 : decode cL_law 165 = .ok (.invokevirtual 74, 3) := by decide +kernel
theorem dL_law_168 : decode cL_law 168 = .ok (.if_icmp .eq 979, 3) := by decide +kernel
theorem dL_law_171 : decode cL_law 171 = .ok (.iconst 0, 1) := by decide +kernel
theorem dL_law_172 : decode cL_law 172 = .ok (.ireturn, 1) := by decide +kernel
theorem dL_law_173 : decode cL_law 173 = .ok (.aload_n 1, 1) := by decide +kernel
theorem dL_law_174 : decode cL_law 174 = .ok (.aload_n 0, 1) := by decide +kernel
theorem dL_law_175 : decode cL_law 175 = .ok (.iload 4, 2) := by decide +kernel
theorem dL_law_177 : decode cL_law 177 = .ok (.iconst 1, 1) := by decide +kernel
theorem dL_law_178 : decode cL_law 178 = .ok (.iadd, 1) := by decide +kernel
theorem dL_law_179 : decode cL_law 179 = .ok (.iaload, 1) := by decide +kernel
theorem dL_law_180 : decode cL_law 180 = .ok (.aload_n 0, 1) := by decide +kernel
theorem dL_law_181 : decode cL_law 181 = .ok (.iload 4, 2) := by decide +kernel
theorem dL_law_183 : decode cL_law 183 = .ok (.iconst 2, 1) := by decide +kernel
theorem dL_law_184 : decode cL_law 184 = .ok (.iadd, 1) := by decide +kernel
theorem dL_law_185 : decode cL_law 185 = .ok (.iaload, 1) := by decide +kernel
theorem dL_law_186 : decode cL_law 186 = .ok (.aload_n 0, 1) := by decide +kernel
theorem dL_law_187 : decode cL_law 187 = .ok (.iload 4, 2) := by decide +kernel
theorem dL_law_189 : decode cL_law 189 = .ok (.iconst 3, 1) := by decide +kernel
theorem dL_law_190 : decode cL_law 190 = .ok (.iadd, 1) := by decide +kernel
theorem dL_law_191 : decode cL_law 191 = .ok (.iaload, 1) := by decide +kernel
theorem dL_law_192 : decode cL_law 192 = .ok (.aload_n 3, 1) := by decide +kernel
theorem dL_law_193 : decode cL_law 193 = .ok (.invokestatic 75, 3) := by decide +kernel
theorem dL_law_196 : decode cL_law 196 = .ok (.istore 5, 2) := by decide +kernel
theorem dL_law_198 : decode cL_law 198 = .ok (.aload_n 2, 1) := by decide +kernel
theorem dL_law_199 : decode cL_law 199 = .ok (.aload_n 0, 1) := by decide +kernel
theorem dL_law_200 : decode cL_law 200 = .ok (.iload 4, 2) := by decide +kernel
theorem dL_law_202 : decode cL_law 202 = .ok (.iconst 1, 1) := by decide +kernel
theorem dL_law_203 : decode cL_law 203 = .ok (.iadd, 1) := by decide +kernel
theorem dL_law_204 : decode cL_law 204 = .ok (.iaload, 1) := by decide +kernel
theorem dL_law_205 : decode cL_law 205 = .ok (.aload_n 0, 1) := by decide +kernel
theorem dL_law_206 : decode cL_law 206 = .ok (.iload 4, 2) := by decide +kernel
theorem dL_law_208 : decode cL_law 208 = .ok (.iconst 2, 1) := by decide +kernel
theorem dL_law_209 : decode cL_law 209 = .ok (.iadd, 1) := by decide +kernel
theorem dL_law_210 : decode cL_law 210 = .ok (.iaload, 1) := by decide +kernel
theorem dL_law_211 : decode cL_law 211 = .ok (.aload_n 0, 1) := by decide +kernel
theorem dL_law_212 : decode cL_law 212 = .ok (.iload 4, 2) := by decide +kernel
theorem dL_law_214 : decode cL_law 214 = .ok (.iconst 3, 1) := by decide +kernel
theorem dL_law_215 : decode cL_law 215 = .ok (.iadd, 1) := by decide +kernel
theorem dL_law_216 : decode cL_law 216 = .ok (.iaload, 1) := by decide +kernel
theorem dL_law_217 : decode cL_law 217 = .ok (.invokevirtual 78, 3) := by decide +kernel
theorem dL_law_220 : decode cL_law 220 = .ok (.istore 6, 2) := by decide +kernel
theorem dL_law_222 : decode cL_law 222 = .ok (.aload_n 2, 1) := by decide +kernel
theorem dL_law_223 : decode cL_law 223 = .ok (.invokevirtual 79, 3) := by decide +kernel
theorem dL_law_226 : decode cL_law 226 = .ok (.iload 5, 2) := by decide +kernel
theorem dL_law_228 : decode cL_law 228 = .ok (.if_icmp .eq 5, 3) := by decide +kernel
theorem dL_law_231 : decode cL_law 231 = .ok (.iconst 0, 1) := by decide +kernel
theorem dL_law_232 : decode cL_law 232 = .ok (.ireturn, 1) := by decide +kernel
theorem dL_law_233 : decode cL_law 233 = .ok (.iload 5, 2) := by decide +kernel
theorem dL_law_235 : decode cL_law 235 = .ok (.ifCond .ne 22, 3) := by decide +kernel
theorem dL_law_238 : decode cL_law 238 = .ok (.aload_n 3, 1) := by decide +kernel
theorem dL_law_239 : decode cL_law 239 = .ok (.iconst 0, 1) := by decide +kernel
theorem dL_law_240 : decode cL_law 240 = .ok (.laload, 1) := by decide +kernel
theorem dL_law_241 : decode cL_law 241 = .ok (.iload 6, 2) := by decide +kernel
theorem dL_law_243 : decode cL_law 243 = .ok (.ifCond .eq 7, 3) := by decide +kernel
theorem dL_law_246 : decode cL_law 246 = .ok (.lconst 1, 1) := by decide +kernel
theorem dL_law_247 : decode cL_law 247 = .ok (.goto 4, 3) := by decide +kernel
theorem dL_law_250 : decode cL_law 250 = .ok (.lconst 0, 1) := by decide +kernel
theorem dL_law_251 : decode cL_law 251 = .ok (.lcmp, 1) := by decide +kernel
theorem dL_law_252 : decode cL_law 252 = .ok (.ifCond .eq 5, 3) := by decide +kernel
theorem dL_law_255 : decode cL_law 255 = .ok (.iconst 0, 1) := by decide +kernel
theorem dL_law_256 : decode cL_law 256 = .ok (.ireturn, 1) := by decide +kernel
theorem dL_law_257 : decode cL_law 257 = .ok (.goto 890, 3) := by decide +kernel
theorem dL_law_260 : decode cL_law 260 = .ok (.aload_n 1, 1) := by decide +kernel
theorem dL_law_261 : decode cL_law 261 = .ok (.aload_n 0, 1) := by decide +kernel
theorem dL_law_262 : decode cL_law 262 = .ok (.iload 4, 2) := by decide +kernel
theorem dL_law_264 : decode cL_law 264 = .ok (.iconst 1, 1) := by decide +kernel
theorem dL_law_265 : decode cL_law 265 = .ok (.iadd, 1) := by decide +kernel
theorem dL_law_266 : decode cL_law 266 = .ok (.iaload, 1) := by decide +kernel
theorem dL_law_267 : decode cL_law 267 = .ok (.aload_n 0, 1) := by decide +kernel
theorem dL_law_268 : decode cL_law 268 = .ok (.iload 4, 2) := by decide +kernel
theorem dL_law_270 : decode cL_law 270 = .ok (.iconst 2, 1) := by decide +kernel
theorem dL_law_271 : decode cL_law 271 = .ok (.iadd, 1) := by decide +kernel
theorem dL_law_272 : decode cL_law 272 = .ok (.iaload, 1) := by decide +kernel
theorem dL_law_273 : decode cL_law 273 = .ok (.aload_n 0, 1) := by decide +kernel
theorem dL_law_274 : decode cL_law 274 = .ok (.iload 4, 2) := by decide +kernel
theorem dL_law_276 : decode cL_law 276 = .ok (.iconst 3, 1) := by decide +kernel
theorem dL_law_277 : decode cL_law 277 = .ok (.iadd, 1) := by decide +kernel
theorem dL_law_278 : decode cL_law 278 = .ok (.iaload, 1) := by decide +kernel
theorem dL_law_279 : decode cL_law 279 = .ok (.aload_n 3, 1) := by decide +kernel
theorem dL_law_280 : decode cL_law 280 = .ok (.invokestatic 82, 3) := by decide +kernel
theorem dL_law_283 : decode cL_law 283 = .ok (.istore 5, 2) := by decide +kernel
theorem dL_law_285 : decode cL_law 285 = .ok (.aload_n 2, 1) := by decide +kernel
theorem dL_law_286 : decode cL_law 286 = .ok (.aload_n 0, 1) := by decide +kernel
theorem dL_law_287 : decode cL_law 287 = .ok (.iload 4, 2) := by decide +kernel
theorem dL_law_289 : decode cL_law 289 = .ok (.iconst 1, 1) := by decide +kernel
theorem dL_law_290 : decode cL_law 290 = .ok (.iadd, 1) := by decide +kernel
theorem dL_law_291 : decode cL_law 291 = .ok (.iaload, 1) := by decide +kernel
theorem dL_law_292 : decode cL_law 292 = .ok (.aload_n 0, 1) := by decide +kernel
theorem dL_law_293 : decode cL_law 293 = .ok (.iload 4, 2) := by decide +kernel
theorem dL_law_295 : decode cL_law 295 = .ok (.iconst 2, 1) := by decide +kernel
theorem dL_law_296 : decode cL_law 296 = .ok (.iadd, 1) := by decide +kernel
theorem dL_law_297 : decode cL_law 297 = .ok (.iaload, 1) := by decide +kernel
theorem dL_law_298 : decode cL_law 298 = .ok (.aload_n 0, 1) := by decide +kernel
theorem dL_law_299 : decode cL_law 299 = .ok (.iload 4, 2) := by decide +kernel
theorem dL_law_301 : decode cL_law 301 = .ok (.iconst 3, 1) := by decide +kernel
theorem dL_law_302 : decode cL_law 302 = .ok (.iadd, 1) := by decide +kernel
theorem dL_law_303 : decode cL_law 303 = .ok (.iaload, 1) := by decide +kernel
theorem dL_law_304 : decode cL_law 304 = .ok (.invokevirtual 84, 3) := by decide +kernel
theorem dL_law_307 : decode cL_law 307 = .ok (.istore 6, 2) := by decide +kernel
theorem dL_law_309 : decode cL_law 309 = .ok (.aload_n 2, 1) := by decide +kernel
theorem dL_law_310 : decode cL_law 310 = .ok (.invokevirtual 79, 3) := by decide +kernel
theorem dL_law_313 : decode cL_law 313 = .ok (.iload 5, 2) := by decide +kernel
theorem dL_law_315 : decode cL_law 315 = .ok (.if_icmp .eq 5, 3) := by decide +kernel
theorem dL_law_318 : decode cL_law 318 = .ok (.iconst 0, 1) := by decide +kernel
theorem dL_law_319 : decode cL_law 319 = .ok (.ireturn, 1) := by decide +kernel
theorem dL_law_320 : decode cL_law 320 = .ok (.iload 5, 2) := by decide +kernel
theorem dL_law_322 : decode cL_law 322 = .ok (.ifCond .ne 22, 3) := by decide +kernel
theorem dL_law_325 : decode cL_law 325 = .ok (.aload_n 3, 1) := by decide +kernel
theorem dL_law_326 : decode cL_law 326 = .ok (.iconst 0, 1) := by decide +kernel
theorem dL_law_327 : decode cL_law 327 = .ok (.laload, 1) := by decide +kernel
theorem dL_law_328 : decode cL_law 328 = .ok (.iload 6, 2) := by decide +kernel
theorem dL_law_330 : decode cL_law 330 = .ok (.ifCond .eq 7, 3) := by decide +kernel
theorem dL_law_333 : decode cL_law 333 = .ok (.lconst 1, 1) := by decide +kernel
theorem dL_law_334 : decode cL_law 334 = .ok (.goto 4, 3) := by decide +kernel
theorem dL_law_337 : decode cL_law 337 = .ok (.lconst 0, 1) := by decide +kernel
theorem dL_law_338 : decode cL_law 338 = .ok (.lcmp, 1) := by decide +kernel
theorem dL_law_339 : decode cL_law 339 = .ok (.ifCond .eq 5, 3) := by decide +kernel
theorem dL_law_342 : decode cL_law 342 = .ok (.iconst 0, 1) := by decide +kernel
theorem dL_law_343 : decode cL_law 343 = .ok (.ireturn, 1) := by decide +kernel
theorem dL_law_344 : decode cL_law 344 = .ok (.goto 803, 3) := by decide +kernel
theorem dL_law_347 : decode cL_law 347 = .ok (.aload_n 1, 1) := by decide +kernel
theorem dL_law_348 : decode cL_law 348 = .ok (.aload_n 0, 1) := by decide +kernel
theorem dL_law_349 : decode cL_law 349 = .ok (.iload 4, 2) := by decide +kernel
theorem dL_law_351 : decode cL_law 351 = .ok (.iconst 1, 1) := by decide +kernel
theorem dL_law_352 : decode cL_law 352 = .ok (.iadd, 1) := by decide +kernel
theorem dL_law_353 : decode cL_law 353 = .ok (.iaload, 1) := by decide +kernel
theorem dL_law_354 : decode cL_law 354 = .ok (.aload_n 3, 1) := by decide +kernel
theorem dL_law_355 : decode cL_law 355 = .ok (.invokestatic 85, 3) := by decide +kernel
theorem dL_law_358 : decode cL_law 358 = .ok (.istore 5, 2) := by decide +kernel
theorem dL_law_360 : decode cL_law 360 = .ok (.aload_n 2, 1) := by decide +kernel
theorem dL_law_361 : decode cL_law 361 = .ok (.aload_n 0, 1) := by decide +kernel
theorem dL_law_362 : decode cL_law 362 = .ok (.iload 4, 2) := by decide +kernel
theorem dL_law_364 : decode cL_law 364 = .ok (.iconst 1, 1) := by decide +kernel
theorem dL_law_365 : decode cL_law 365 = .ok (.iadd, 1) := by decide +kernel
theorem dL_law_366 : decode cL_law 366 = .ok (.iaload, 1) := by decide +kernel
theorem dL_law_367 : decode cL_law 367 = .ok (.invokevirtual 88, 3) := by decide +kernel
theorem dL_law_370 : decode cL_law 370 = .ok (.istore 6, 2) := by decide +kernel
theorem dL_law_372 : decode cL_law 372 = .ok (.aload_n 2, 1) := by decide +kernel
theorem dL_law_373 : decode cL_law 373 = .ok (.invokevirtual 79, 3) := by decide +kernel
theorem dL_law_376 : decode cL_law 376 = .ok (.iload 5, 2) := by decide +kernel
theorem dL_law_378 : decode cL_law 378 = .ok (.if_icmp .eq 5, 3) := by decide +kernel
theorem dL_law_381 : decode cL_law 381 = .ok (.iconst 0, 1) := by decide +kernel
theorem dL_law_382 : decode cL_law 382 = .ok (.ireturn, 1) := by decide +kernel
theorem dL_law_383 : decode cL_law 383 = .ok (.iload 5, 2) := by decide +kernel
theorem dL_law_385 : decode cL_law 385 = .ok (.ifCond .ne 15, 3) := by decide +kernel
theorem dL_law_388 : decode cL_law 388 = .ok (.aload_n 3, 1) := by decide +kernel
theorem dL_law_389 : decode cL_law 389 = .ok (.iconst 0, 1) := by decide +kernel
theorem dL_law_390 : decode cL_law 390 = .ok (.laload, 1) := by decide +kernel
theorem dL_law_391 : decode cL_law 391 = .ok (.iload 6, 2) := by decide +kernel
theorem dL_law_393 : decode cL_law 393 = .ok (.i2l, 1) := by decide +kernel
theorem dL_law_394 : decode cL_law 394 = .ok (.lcmp, 1) := by decide +kernel
theorem dL_law_395 : decode cL_law 395 = .ok (.ifCond .eq 5, 3) := by decide +kernel
theorem dL_law_398 : decode cL_law 398 = .ok (.iconst 0, 1) := by decide +kernel
theorem dL_law_399 : decode cL_law 399 = .ok (.ireturn, 1) := by decide +kernel
theorem dL_law_400 : decode cL_law 400 = .ok (.goto 747, 3) := by decide +kernel
theorem dL_law_403 : decode cL_law 403 = .ok (.aload_n 1, 1) := by decide +kernel
theorem dL_law_404 : decode cL_law 404 = .ok (.aload_n 0, 1) := by decide +kernel
theorem dL_law_405 : decode cL_law 405 = .ok (.iload 4, 2) := by decide +kernel
theorem dL_law_407 : decode cL_law 407 = .ok (.iconst 1, 1) := by decide +kernel
theorem dL_law_408 : decode cL_law 408 = .ok (.iadd, 1) := by decide +kernel
theorem dL_law_409 : decode cL_law 409 = .ok (.iaload, 1) := by decide +kernel
theorem dL_law_410 : decode cL_law 410 = .ok (.aload_n 0, 1) := by decide +kernel
theorem dL_law_411 : decode cL_law 411 = .ok (.iload 4, 2) := by decide +kernel
theorem dL_law_413 : decode cL_law 413 = .ok (.iconst 2, 1) := by decide +kernel
theorem dL_law_414 : decode cL_law 414 = .ok (.iadd, 1) := by decide +kernel
theorem dL_law_415 : decode cL_law 415 = .ok (.iaload, 1) := by decide +kernel
theorem dL_law_416 : decode cL_law 416 = .ok (.ifCond .eq 7, 3) := by decide +kernel
theorem dL_law_419 : decode cL_law 419 = .ok (.iconst 1, 1) := by decide +kernel
theorem dL_law_420 : decode cL_law 420 = .ok (.goto 4, 3) := by decide +kernel
theorem dL_law_423 : decode cL_law 423 = .ok (.iconst 0, 1) := by decide +kernel
theorem dL_law_424 : decode cL_law 424 = .ok (.aload_n 3, 1) := by decide +kernel
theorem dL_law_425 : decode cL_law 425 = .ok (.invokestatic 89, 3) := by decide +kernel
theorem dL_law_428 : decode cL_law 428 = .ok (.istore 5, 2) := by decide +kernel
theorem dL_law_430 : decode cL_law 430 = .ok (.aload_n 2, 1) := by decide +kernel
theorem dL_law_431 : decode cL_law 431 = .ok (.aload_n 0, 1) := by decide +kernel
theorem dL_law_432 : decode cL_law 432 = .ok (.iload 4, 2) := by decide +kernel
theorem dL_law_434 : decode cL_law 434 = .ok (.iconst 1, 1) := by decide +kernel
theorem dL_law_435 : decode cL_law 435 = .ok (.iadd, 1) := by decide +kernel
theorem dL_law_436 : decode cL_law 436 = .ok (.iaload, 1) := by decide +kernel
theorem dL_law_437 : decode cL_law 437 = .ok (.aload_n 0, 1) := by decide +kernel
theorem dL_law_438 : decode cL_law 438 = .ok (.iload 4, 2) := by decide +kernel
theorem dL_law_440 : decode cL_law 440 = .ok (.iconst 2, 1) := by decide +kernel
theorem dL_law_441 : decode cL_law 441 = .ok (.iadd, 1) := by decide +kernel
theorem dL_law_442 : decode cL_law 442 = .ok (.iaload, 1) := by decide +kernel
theorem dL_law_443 : decode cL_law 443 = .ok (.ifCond .eq 7, 3) := by decide +kernel
theorem dL_law_446 : decode cL_law 446 = .ok (.iconst 1, 1) := by decide +kernel
theorem dL_law_447 : decode cL_law 447 = .ok (.goto 4, 3) := by decide +kernel
theorem dL_law_450 : decode cL_law 450 = .ok (.iconst 0, 1) := by decide +kernel
theorem dL_law_451 : decode cL_law 451 = .ok (.invokevirtual 92, 3) := by decide +kernel
theorem dL_law_454 : decode cL_law 454 = .ok (.istore 6, 2) := by decide +kernel
theorem dL_law_456 : decode cL_law 456 = .ok (.aload_n 2, 1) := by decide +kernel
theorem dL_law_457 : decode cL_law 457 = .ok (.invokevirtual 79, 3) := by decide +kernel
theorem dL_law_460 : decode cL_law 460 = .ok (.iload 5, 2) := by decide +kernel
theorem dL_law_462 : decode cL_law 462 = .ok (.if_icmp .eq 5, 3) := by decide +kernel
theorem dL_law_465 : decode cL_law 465 = .ok (.iconst 0, 1) := by decide +kernel
theorem dL_law_466 : decode cL_law 466 = .ok (.ireturn, 1) := by decide +kernel
theorem dL_law_467 : decode cL_law 467 = .ok (.iload 5, 2) := by decide +kernel
theorem dL_law_469 : decode cL_law 469 = .ok (.ifCond .ne 22, 3) := by decide +kernel
theorem dL_law_472 : decode cL_law 472 = .ok (.aload_n 3, 1) := by decide +kernel
theorem dL_law_473 : decode cL_law 473 = .ok (.iconst 0, 1) := by decide +kernel
theorem dL_law_474 : decode cL_law 474 = .ok (.laload, 1) := by decide +kernel
theorem dL_law_475 : decode cL_law 475 = .ok (.iload 6, 2) := by decide +kernel
theorem dL_law_477 : decode cL_law 477 = .ok (.ifCond .eq 7, 3) := by decide +kernel
theorem dL_law_480 : decode cL_law 480 = .ok (.lconst 1, 1) := by decide +kernel
theorem dL_law_481 : decode cL_law 481 = .ok (.goto 4, 3) := by decide +kernel
theorem dL_law_484 : decode cL_law 484 = .ok (.lconst 0, 1) := by decide +kernel
theorem dL_law_485 : decode cL_law 485 = .ok (.lcmp, 1) := by decide +kernel
theorem dL_law_486 : decode cL_law 486 = .ok (.ifCond .eq 5, 3) := by decide +kernel
theorem dL_law_489 : decode cL_law 489 = .ok (.iconst 0, 1) := by decide +kernel
theorem dL_law_490 : decode cL_law 490 = .ok (.ireturn, 1) := by decide +kernel
theorem dL_law_491 : decode cL_law 491 = .ok (.goto 656, 3) := by decide +kernel
theorem dL_law_494 : decode cL_law 494 = .ok (.aload_n 1, 1) := by decide +kernel
theorem dL_law_495 : decode cL_law 495 = .ok (.invokevirtual 93, 3) := by decide +kernel
theorem dL_law_498 : decode cL_law 498 = .ok (.aload_n 2, 1) := by decide +kernel
theorem dL_law_499 : decode cL_law 499 = .ok (.invokevirtual 96, 3) := by decide +kernel
theorem dL_law_502 : decode cL_law 502 = .ok (.if_icmp .eq 645, 3) := by decide +kernel
theorem dL_law_505 : decode cL_law 505 = .ok (.iconst 0, 1) := by decide +kernel
theorem dL_law_506 : decode cL_law 506 = .ok (.ireturn, 1) := by decide +kernel
theorem dL_law_507 : decode cL_law 507 = .ok (.aload_n 1, 1) := by decide +kernel
theorem dL_law_508 : decode cL_law 508 = .ok (.aload_n 0, 1) := by decide +kernel
theorem dL_law_509 : decode cL_law 509 = .ok (.iload 4, 2) := by decide +kernel
theorem dL_law_511 : decode cL_law 511 = .ok (.iconst 1, 1) := by decide +kernel
theorem dL_law_512 : decode cL_law 512 = .ok (.iadd, 1) := by decide +kernel
theorem dL_law_513 : decode cL_law 513 = .ok (.iaload, 1) := by decide +kernel
theorem dL_law_514 : decode cL_law 514 = .ok (.invokestatic 97, 3) := by decide +kernel
theorem dL_law_517 : decode cL_law 517 = .ok (.istore 5, 2) := by decide +kernel
theorem dL_law_519 : decode cL_law 519 = .ok (.aload_n 2, 1) := by decide +kernel
theorem dL_law_520 : decode cL_law 520 = .ok (.aload_n 0, 1) := by decide +kernel
theorem dL_law_521 : decode cL_law 521 = .ok (.iload 4, 2) := by decide +kernel
theorem dL_law_523 : decode cL_law 523 = .ok (.iconst 1, 1) := by decide +kernel
theorem dL_law_524 : decode cL_law 524 = .ok (.iadd, 1) := by decide +kernel
theorem dL_law_525 : decode cL_law 525 = .ok (.iaload, 1) := by decide +kernel
theorem dL_law_526 : decode cL_law 526 = .ok (.invokevirtual 100, 3) := by decide +kernel
theorem dL_law_529 : decode cL_law 529 = .ok (.aload_n 2, 1) := by decide +kernel
theorem dL_law_530 : decode cL_law 530 = .ok (.invokevirtual 79, 3) := by decide +kernel
theorem dL_law_533 : decode cL_law 533 = .ok (.iload 5, 2) := by decide +kernel
theorem dL_law_535 : decode cL_law 535 = .ok (.if_icmp .eq 5, 3) := by decide +kernel
theorem dL_law_538 : decode cL_law 538 = .ok (.iconst 0, 1) := by decide +kernel
theorem dL_law_539 : decode cL_law 539 = .ok (.ireturn, 1) := by decide +kernel
theorem dL_law_540 : decode cL_law 540 = .ok (.goto 607, 3) := by decide +kernel
theorem dL_law_543 : decode cL_law 543 = .ok (.aload_n 1, 1) := by decide +kernel
theorem dL_law_544 : decode cL_law 544 = .ok (.invokevirtual 101, 3) := by decide +kernel
theorem dL_law_547 : decode cL_law 547 = .ok (.aload_n 2, 1) := by decide +kernel
theorem dL_law_548 : decode cL_law 548 = .ok (.invokevirtual 104, 3) := by decide +kernel
theorem dL_law_551 : decode cL_law 551 = .ok (.if_icmp .eq 596, 3) := by decide +kernel
theorem dL_law_554 : decode cL_law 554 = .ok (.iconst 0, 1) := by decide +kernel
theorem dL_law_555 : decode cL_law 555 = .ok (.ireturn, 1) := by decide +kernel
theorem dL_law_556 : decode cL_law 556 = .ok (.aload_n 1, 1) := by decide +kernel
theorem dL_law_557 : decode cL_law 557 = .ok (.aload_n 0, 1) := by decide +kernel
theorem dL_law_558 : decode cL_law 558 = .ok (.iload 4, 2) := by decide +kernel
theorem dL_law_560 : decode cL_law 560 = .ok (.iconst 1, 1) := by decide +kernel
theorem dL_law_561 : decode cL_law 561 = .ok (.iadd, 1) := by decide +kernel
theorem dL_law_562 : decode cL_law 562 = .ok (.iaload, 1) := by decide +kernel
theorem dL_law_563 : decode cL_law 563 = .ok (.aload_n 3, 1) := by decide +kernel
theorem dL_law_564 : decode cL_law 564 = .ok (.invokestatic 105, 3) := by decide +kernel
theorem dL_law_567 : decode cL_law 567 = .ok (.istore 5, 2) := by decide +kernel
theorem dL_law_569 : decode cL_law 569 = .ok (.aload_n 2, 1) := by decide +kernel
theorem dL_law_570 : decode cL_law 570 = .ok (.aload_n 0, 1) := by decide +kernel
theorem dL_law_571 : decode cL_law 571 = .ok (.iload 4, 2) := by decide +kernel
theorem dL_law_573 : decode cL_law 573 = .ok (.iconst 1, 1) := by decide +kernel
theorem dL_law_574 : decode cL_law 574 = .ok (.iadd, 1) := by decide +kernel
theorem dL_law_575 : decode cL_law 575 = .ok (.iaload, 1) := by decide +kernel
theorem dL_law_576 : decode cL_law 576 = .ok (.invokevirtual 107, 3) := by decide +kernel
theorem dL_law_579 : decode cL_law 579 = .ok (.istore 6, 2) := by decide +kernel
theorem dL_law_581 : decode cL_law 581 = .ok (.aload_n 2, 1) := by decide +kernel
theorem dL_law_582 : decode cL_law 582 = .ok (.invokevirtual 79, 3) := by decide +kernel
theorem dL_law_585 : decode cL_law 585 = .ok (.iload 5, 2) := by decide +kernel
theorem dL_law_587 : decode cL_law 587 = .ok (.if_icmp .eq 5, 3) := by decide +kernel
theorem dL_law_590 : decode cL_law 590 = .ok (.iconst 0, 1) := by decide +kernel
theorem dL_law_591 : decode cL_law 591 = .ok (.ireturn, 1) := by decide +kernel
theorem dL_law_592 : decode cL_law 592 = .ok (.iload 5, 2) := by decide +kernel
theorem dL_law_594 : decode cL_law 594 = .ok (.ifCond .ne 15, 3) := by decide +kernel
theorem dL_law_597 : decode cL_law 597 = .ok (.aload_n 3, 1) := by decide +kernel
theorem dL_law_598 : decode cL_law 598 = .ok (.iconst 0, 1) := by decide +kernel
theorem dL_law_599 : decode cL_law 599 = .ok (.laload, 1) := by decide +kernel
theorem dL_law_600 : decode cL_law 600 = .ok (.iload 6, 2) := by decide +kernel
theorem dL_law_602 : decode cL_law 602 = .ok (.i2l, 1) := by decide +kernel
theorem dL_law_603 : decode cL_law 603 = .ok (.lcmp, 1) := by decide +kernel
theorem dL_law_604 : decode cL_law 604 = .ok (.ifCond .eq 5, 3) := by decide +kernel
theorem dL_law_607 : decode cL_law 607 = .ok (.iconst 0, 1) := by decide +kernel
theorem dL_law_608 : decode cL_law 608 = .ok (.ireturn, 1) := by decide +kernel
theorem dL_law_609 : decode cL_law 609 = .ok (.goto 538, 3) := by decide +kernel
theorem dL_law_612 : decode cL_law 612 = .ok (.aload_n 1, 1) := by decide +kernel
theorem dL_law_613 : decode cL_law 613 = .ok (.aload_n 0, 1) := by decide +kernel
theorem dL_law_614 : decode cL_law 614 = .ok (.iload 4, 2) := by decide +kernel
theorem dL_law_616 : decode cL_law 616 = .ok (.iconst 1, 1) := by decide +kernel
theorem dL_law_617 : decode cL_law 617 = .ok (.iadd, 1) := by decide +kernel
theorem dL_law_618 : decode cL_law 618 = .ok (.iaload, 1) := by decide +kernel
theorem dL_law_619 : decode cL_law 619 = .ok (.aload_n 3, 1) := by decide +kernel
theorem dL_law_620 : decode cL_law 620 = .ok (.invokestatic 108, 3) := by decide +kernel
theorem dL_law_623 : decode cL_law 623 = .ok (.istore 5, 2) := by decide +kernel
theorem dL_law_625 : decode cL_law 625 = .ok (.aload_n 2, 1) := by decide +kernel
theorem dL_law_626 : decode cL_law 626 = .ok (.aload_n 0, 1) := by decide +kernel
theorem dL_law_627 : decode cL_law 627 = .ok (.iload 4, 2) := by decide +kernel
theorem dL_law_629 : decode cL_law 629 = .ok (.iconst 1, 1) := by decide +kernel
theorem dL_law_630 : decode cL_law 630 = .ok (.iadd, 1) := by decide +kernel
theorem dL_law_631 : decode cL_law 631 = .ok (.iaload, 1) := by decide +kernel
theorem dL_law_632 : decode cL_law 632 = .ok (.invokevirtual 110, 3) := by decide +kernel
theorem dL_law_635 : decode cL_law 635 = .ok (.istore 6, 2) := by decide +kernel
theorem dL_law_637 : decode cL_law 637 = .ok (.aload_n 2, 1) := by decide +kernel
theorem dL_law_638 : decode cL_law 638 = .ok (.invokevirtual 79, 3) := by decide +kernel
theorem dL_law_641 : decode cL_law 641 = .ok (.iload 5, 2) := by decide +kernel
theorem dL_law_643 : decode cL_law 643 = .ok (.if_icmp .eq 5, 3) := by decide +kernel
theorem dL_law_646 : decode cL_law 646 = .ok (.iconst 0, 1) := by decide +kernel
theorem dL_law_647 : decode cL_law 647 = .ok (.ireturn, 1) := by decide +kernel
theorem dL_law_648 : decode cL_law 648 = .ok (.iload 5, 2) := by decide +kernel
theorem dL_law_650 : decode cL_law 650 = .ok (.ifCond .ne 15, 3) := by decide +kernel
theorem dL_law_653 : decode cL_law 653 = .ok (.aload_n 3, 1) := by decide +kernel
theorem dL_law_654 : decode cL_law 654 = .ok (.iconst 0, 1) := by decide +kernel
theorem dL_law_655 : decode cL_law 655 = .ok (.laload, 1) := by decide +kernel
theorem dL_law_656 : decode cL_law 656 = .ok (.iload 6, 2) := by decide +kernel
theorem dL_law_658 : decode cL_law 658 = .ok (.i2l, 1) := by decide +kernel
theorem dL_law_659 : decode cL_law 659 = .ok (.lcmp, 1) := by decide +kernel
theorem dL_law_660 : decode cL_law 660 = .ok (.ifCond .eq 5, 3) := by decide +kernel
theorem dL_law_663 : decode cL_law 663 = .ok (.iconst 0, 1) := by decide +kernel
theorem dL_law_664 : decode cL_law 664 = .ok (.ireturn, 1) := by decide +kernel
theorem dL_law_665 : decode cL_law 665 = .ok (.goto 482, 3) := by decide +kernel
theorem dL_law_668 : decode cL_law 668 = .ok (.aload_n 1, 1) := by decide +kernel
theorem dL_law_669 : decode cL_law 669 = .ok (.aload_n 0, 1) := by decide +kernel
theorem dL_law_670 : decode cL_law 670 = .ok (.iload 4, 2) := by decide +kernel
theorem dL_law_672 : decode cL_law 672 = .ok (.iconst 1, 1) := by decide +kernel
theorem dL_law_673 : decode cL_law 673 = .ok (.iadd, 1) := by decide +kernel
theorem dL_law_674 : decode cL_law 674 = .ok (.iaload, 1) := by decide +kernel
theorem dL_law_675 : decode cL_law 675 = .ok (.invokestatic 111, 3) := by decide +kernel
theorem dL_law_678 : decode cL_law 678 = .ok (.istore 5, 2) := by decide +kernel
theorem dL_law_680 : decode cL_law 680 = .ok (.aload_n 2, 1) := by decide +kernel
theorem dL_law_681 : decode cL_law 681 = .ok (.aload_n 0, 1) := by decide +kernel
theorem dL_law_682 : decode cL_law 682 = .ok (.iload 4, 2) := by decide +kernel
theorem dL_law_684 : decode cL_law 684 = .ok (.iconst 1, 1) := by decide +kernel
theorem dL_law_685 : decode cL_law 685 = .ok (.iadd, 1) := by decide +kernel
theorem dL_law_686 : decode cL_law 686 = .ok (.iaload, 1) := by decide +kernel
theorem dL_law_687 : decode cL_law 687 = .ok (.invokevirtual 113, 3) := by decide +kernel
theorem dL_law_690 : decode cL_law 690 = .ok (.aload_n 2, 1) := by decide +kernel
theorem dL_law_691 : decode cL_law 691 = .ok (.invokevirtual 79, 3) := by decide +kernel
theorem dL_law_694 : decode cL_law 694 = .ok (.iload 5, 2) := by decide +kernel
theorem dL_law_696 : decode cL_law 696 = .ok (.if_icmp .eq 5, 3) := by decide +kernel
theorem dL_law_699 : decode cL_law 699 = .ok (.iconst 0, 1) := by decide +kernel
theorem dL_law_700 : decode cL_law 700 = .ok (.ireturn, 1) := by decide +kernel
theorem dL_law_701 : decode cL_law 701 = .ok (.goto 446, 3) := by decide +kernel
theorem dL_law_704 : decode cL_law 704 = .ok (.aload_n 1, 1) := by decide +kernel
theorem dL_law_705 : decode cL_law 705 = .ok (.aload_n 0, 1) := by decide +kernel
theorem dL_law_706 : decode cL_law 706 = .ok (.iload 4, 2) := by decide +kernel
theorem dL_law_708 : decode cL_law 708 = .ok (.iconst 1, 1) := by decide +kernel
theorem dL_law_709 : decode cL_law 709 = .ok (.iadd, 1) := by decide +kernel
theorem dL_law_710 : decode cL_law 710 = .ok (.iaload, 1) := by decide +kernel
theorem dL_law_711 : decode cL_law 711 = .ok (.invokevirtual 114, 3) := by decide +kernel
theorem dL_law_714 : decode cL_law 714 = .ok (.aload_n 2, 1) := by decide +kernel
theorem dL_law_715 : decode cL_law 715 = .ok (.aload_n 0, 1) := by decide +kernel
theorem dL_law_716 : decode cL_law 716 = .ok (.iload 4, 2) := by decide +kernel
theorem dL_law_718 : decode cL_law 718 = .ok (.iconst 1, 1) := by decide +kernel
theorem dL_law_719 : decode cL_law 719 = .ok (.iadd, 1) := by decide +kernel
theorem dL_law_720 : decode cL_law 720 = .ok (.iaload, 1) := by decide +kernel
theorem dL_law_721 : decode cL_law 721 = .ok (.invokevirtual 117, 3) := by decide +kernel
theorem dL_law_724 : decode cL_law 724 = .ok (.if_icmp .eq 423, 3) := by decide +kernel
theorem dL_law_727 : decode cL_law 727 = .ok (.iconst 0, 1) := by decide +kernel
theorem dL_law_728 : decode cL_law 728 = .ok (.ireturn, 1) := by decide +kernel
theorem dL_law_729 : decode cL_law 729 = .ok (.aload_n 1, 1) := by decide +kernel
theorem dL_law_730 : decode cL_law 730 = .ok (.aload_n 0, 1) := by decide +kernel
theorem dL_law_731 : decode cL_law 731 = .ok (.iload 4, 2) := by decide +kernel
theorem dL_law_733 : decode cL_law 733 = .ok (.iconst 1, 1) := by decide +kernel
theorem dL_law_734 : decode cL_law 734 = .ok (.iadd, 1) := by decide +kernel
theorem dL_law_735 : decode cL_law 735 = .ok (.iaload, 1) := by decide +kernel
theorem dL_law_736 : decode cL_law 736 = .ok (.aload_n 3, 1) := by decide +kernel
theorem dL_law_737 : decode cL_law 737 = .ok (.invokestatic 118, 3) := by decide +kernel
theorem dL_law_740 : decode cL_law 740 = .ok (.istore 5, 2) := by decide +kernel
theorem dL_law_742 : decode cL_law 742 = .ok (.aload_n 2, 1) := by decide +kernel
theorem dL_law_743 : decode cL_law 743 = .ok (.aload_n 0, 1) := by decide +kernel
theorem dL_law_744 : decode cL_law 744 = .ok (.iload 4, 2) := by decide +kernel
theorem dL_law_746 : decode cL_law 746 = .ok (.iconst 1, 1) := by decide +kernel
theorem dL_law_747 : decode cL_law 747 = .ok (.iadd, 1) := by decide +kernel
theorem dL_law_748 : decode cL_law 748 = .ok (.iaload, 1) := by decide +kernel
theorem dL_law_749 : decode cL_law 749 = .ok (.invokevirtual 120, 3) := by decide +kernel
theorem dL_law_752 : decode cL_law 752 = .ok (.istore 6, 2) := by decide +kernel
theorem dL_law_754 : decode cL_law 754 = .ok (.aload_n 2, 1) := by decide +kernel
theorem dL_law_755 : decode cL_law 755 = .ok (.invokevirtual 79, 3) := by decide +kernel
theorem dL_law_758 : decode cL_law 758 = .ok (.iload 5, 2) := by decide +kernel
theorem dL_law_760 : decode cL_law 760 = .ok (.if_icmp .eq 5, 3) := by decide +kernel
theorem dL_law_763 : decode cL_law 763 = .ok (.iconst 0, 1) := by decide +kernel
theorem dL_law_764 : decode cL_law 764 = .ok (.ireturn, 1) := by decide +kernel
theorem dL_law_765 : decode cL_law 765 = .ok (.iload 5, 2) := by decide +kernel
theorem dL_law_767 : decode cL_law 767 = .ok (.ifCond .ne 15, 3) := by decide +kernel
theorem dL_law_770 : decode cL_law 770 = .ok (.aload_n 3, 1) := by decide +kernel
theorem dL_law_771 : decode cL_law 771 = .ok (.iconst 0, 1) := by decide +kernel
theorem dL_law_772 : decode cL_law 772 = .ok (.laload, 1) := by decide +kernel
theorem dL_law_773 : decode cL_law 773 = .ok (.iload 6, 2) := by decide +kernel
theorem dL_law_775 : decode cL_law 775 = .ok (.i2l, 1) := by decide +kernel
theorem dL_law_776 : decode cL_law 776 = .ok (.lcmp, 1) := by decide +kernel
theorem dL_law_777 : decode cL_law 777 = .ok (.ifCond .eq 5, 3) := by decide +kernel
theorem dL_law_780 : decode cL_law 780 = .ok (.iconst 0, 1) := by decide +kernel
theorem dL_law_781 : decode cL_law 781 = .ok (.ireturn, 1) := by decide +kernel
theorem dL_law_782 : decode cL_law 782 = .ok (.goto 365, 3) := by decide +kernel
theorem dL_law_785 : decode cL_law 785 = .ok (.aload_n 1, 1) := by decide +kernel
theorem dL_law_786 : decode cL_law 786 = .ok (.aload_n 0, 1) := by decide +kernel
theorem dL_law_787 : decode cL_law 787 = .ok (.iload 4, 2) := by decide +kernel
theorem dL_law_789 : decode cL_law 789 = .ok (.iconst 1, 1) := by decide +kernel
theorem dL_law_790 : decode cL_law 790 = .ok (.iadd, 1) := by decide +kernel
theorem dL_law_791 : decode cL_law 791 = .ok (.iaload, 1) := by decide +kernel
theorem dL_law_792 : decode cL_law 792 = .ok (.invokevirtual 121, 3) := by decide +kernel
theorem dL_law_795 : decode cL_law 795 = .ok (.aload_n 2, 1) := by decide +kernel
theorem dL_law_796 : decode cL_law 796 = .ok (.aload_n 0, 1) := by decide +kernel
theorem dL_law_797 : decode cL_law 797 = .ok (.iload 4, 2) := by decide +kernel
theorem dL_law_799 : decode cL_law 799 = .ok (.iconst 1, 1) := by decide +kernel
theorem dL_law_800 : decode cL_law 800 = .ok (.iadd, 1) := by decide +kernel
theorem dL_law_801 : decode cL_law 801 = .ok (.iaload, 1) := by decide +kernel
theorem dL_law_802 : decode cL_law 802 = .ok (.invokevirtual 124, 3) := by decide +kernel
theorem dL_law_805 : decode cL_law 805 = .ok (.if_icmp .eq 342, 3) := by decide +kernel
theorem dL_law_808 : decode cL_law 808 = .ok (.iconst 0, 1) := by decide +kernel
theorem dL_law_809 : decode cL_law 809 = .ok (.ireturn, 1) := by decide +kernel
theorem dL_law_810 : decode cL_law 810 = .ok (.aload_n 1, 1) := by decide +kernel
theorem dL_law_811 : decode cL_law 811 = .ok (.aload_n 0, 1) := by decide +kernel
theorem dL_law_812 : decode cL_law 812 = .ok (.iload 4, 2) := by decide +kernel
theorem dL_law_814 : decode cL_law 814 = .ok (.iconst 1, 1) := by decide +kernel
theorem dL_law_815 : decode cL_law 815 = .ok (.iadd, 1) := by decide +kernel
theorem dL_law_816 : decode cL_law 816 = .ok (.iaload, 1) := by decide +kernel
theorem dL_law_817 : decode cL_law 817 = .ok (.aload_n 0, 1) := by decide +kernel
theorem dL_law_818 : decode cL_law 818 = .ok (.iload 4, 2) := by decide +kernel
theorem dL_law_820 : decode cL_law 820 = .ok (.iconst 2, 1) := by decide +kernel
theorem dL_law_821 : decode cL_law 821 = .ok (.iadd, 1) := by decide +kernel
theorem dL_law_822 : decode cL_law 822 = .ok (.iaload, 1) := by decide +kernel
theorem dL_law_823 : decode cL_law 823 = .ok (.aload_n 3, 1) := by decide +kernel
theorem dL_law_824 : decode cL_law 824 = .ok (.invokestatic 125, 3) := by decide +kernel
theorem dL_law_827 : decode cL_law 827 = .ok (.istore 5, 2) := by decide +kernel
theorem dL_law_829 : decode cL_law 829 = .ok (.aload_n 2, 1) := by decide +kernel
theorem dL_law_830 : decode cL_law 830 = .ok (.aload_n 0, 1) := by decide +kernel
theorem dL_law_831 : decode cL_law 831 = .ok (.iload 4, 2) := by decide +kernel
theorem dL_law_833 : decode cL_law 833 = .ok (.iconst 1, 1) := by decide +kernel
theorem dL_law_834 : decode cL_law 834 = .ok (.iadd, 1) := by decide +kernel
theorem dL_law_835 : decode cL_law 835 = .ok (.iaload, 1) := by decide +kernel
theorem dL_law_836 : decode cL_law 836 = .ok (.aload_n 0, 1) := by decide +kernel
theorem dL_law_837 : decode cL_law 837 = .ok (.iload 4, 2) := by decide +kernel
theorem dL_law_839 : decode cL_law 839 = .ok (.iconst 2, 1) := by decide +kernel
theorem dL_law_840 : decode cL_law 840 = .ok (.iadd, 1) := by decide +kernel
theorem dL_law_841 : decode cL_law 841 = .ok (.iaload, 1) := by decide +kernel
theorem dL_law_842 : decode cL_law 842 = .ok (.invokevirtual 128, 3) := by decide +kernel
theorem dL_law_845 : decode cL_law 845 = .ok (.lstore 6, 2) := by decide +kernel
theorem dL_law_847 : decode cL_law 847 = .ok (.aload_n 2, 1) := by decide +kernel
theorem dL_law_848 : decode cL_law 848 = .ok (.invokevirtual 79, 3) := by decide +kernel
theorem dL_law_851 : decode cL_law 851 = .ok (.iload 5, 2) := by decide +kernel
theorem dL_law_853 : decode cL_law 853 = .ok (.if_icmp .eq 5, 3) := by decide +kernel
theorem dL_law_856 : decode cL_law 856 = .ok (.iconst 0, 1) := by decide +kernel
theorem dL_law_857 : decode cL_law 857 = .ok (.ireturn, 1) := by decide +kernel
theorem dL_law_858 : decode cL_law 858 = .ok (.iload 5, 2) := by decide +kernel
theorem dL_law_860 : decode cL_law 860 = .ok (.ifCond .ne 14, 3) := by decide +kernel
theorem dL_law_863 : decode cL_law 863 = .ok (.aload_n 3, 1) := by decide +kernel
theorem dL_law_864 : decode cL_law 864 = .ok (.iconst 0, 1) := by decide +kernel
theorem dL_law_865 : decode cL_law 865 = .ok (.laload, 1) := by decide +kernel
theorem dL_law_866 : decode cL_law 866 = .ok (.lload 6, 2) := by decide +kernel
theorem dL_law_868 : decode cL_law 868 = .ok (.lcmp, 1) := by decide +kernel
theorem dL_law_869 : decode cL_law 869 = .ok (.ifCond .eq 5, 3) := by decide +kernel
theorem dL_law_872 : decode cL_law 872 = .ok (.iconst 0, 1) := by decide +kernel
theorem dL_law_873 : decode cL_law 873 = .ok (.ireturn, 1) := by decide +kernel
theorem dL_law_874 : decode cL_law 874 = .ok (.goto 273, 3) := by decide +kernel
theorem dL_law_877 : decode cL_law 877 = .ok (.aload_n 1, 1) := by decide +kernel
theorem dL_law_878 : decode cL_law 878 = .ok (.invokevirtual 129, 3) := by decide +kernel
theorem dL_law_881 : decode cL_law 881 = .ok (.aload_n 2, 1) := by decide +kernel
theorem dL_law_882 : decode cL_law 882 = .ok (.invokevirtual 132, 3) := by decide +kernel
theorem dL_law_885 : decode cL_law 885 = .ok (.if_icmp .eq 262, 3) := by decide +kernel
theorem dL_law_888 : decode cL_law 888 = .ok (.iconst 0, 1) := by decide +kernel
theorem dL_law_889 : decode cL_law 889 = .ok (.ireturn, 1) := by decide +kernel
theorem dL_law_890 : decode cL_law 890 = .ok (.aload_n 1, 1) := by decide +kernel
theorem dL_law_891 : decode cL_law 891 = .ok (.invokevirtual 133, 3) := by decide +kernel
theorem dL_law_894 : decode cL_law 894 = .ok (.aload_n 2, 1) := by decide +kernel
theorem dL_law_895 : decode cL_law 895 = .ok (.invokevirtual 136, 3) := by decide +kernel
theorem dL_law_898 : decode cL_law 898 = .ok (.if_icmp .eq 249, 3) := by decide +kernel
theorem dL_law_901 : decode cL_law 901 = .ok (.iconst 0, 1) := by decide +kernel
theorem dL_law_902 : decode cL_law 902 = .ok (.ireturn, 1) := by decide +kernel
theorem dL_law_903 : decode cL_law 903 = .ok (.aload_n 1, 1) := by decide +kernel
theorem dL_law_904 : decode cL_law 904 = .ok (.aload_n 0, 1) := by decide +kernel
theorem dL_law_905 : decode cL_law 905 = .ok (.iload 4, 2) := by decide +kernel
theorem dL_law_907 : decode cL_law 907 = .ok (.iconst 1, 1) := by decide +kernel
theorem dL_law_908 : decode cL_law 908 = .ok (.iadd, 1) := by decide +kernel
theorem dL_law_909 : decode cL_law 909 = .ok (.iaload, 1) := by decide +kernel
theorem dL_law_910 : decode cL_law 910 = .ok (.aload_n 0, 1) := by decide +kernel
theorem dL_law_911 : decode cL_law 911 = .ok (.iload 4, 2) := by decide +kernel
theorem dL_law_913 : decode cL_law 913 = .ok (.iconst 2, 1) := by decide +kernel
theorem dL_law_914 : decode cL_law 914 = .ok (.iadd, 1) := by decide +kernel
theorem dL_law_915 : decode cL_law 915 = .ok (.iaload, 1) := by decide +kernel
theorem dL_law_916 : decode cL_law 916 = .ok (.aload_n 0, 1) := by decide +kernel
theorem dL_law_917 : decode cL_law 917 = .ok (.iload 4, 2) := by decide +kernel
theorem dL_law_919 : decode cL_law 919 = .ok (.iconst 3, 1) := by decide +kernel
theorem dL_law_920 : decode cL_law 920 = .ok (.iadd, 1) := by decide +kernel
theorem dL_law_921 : decode cL_law 921 = .ok (.iaload, 1) := by decide +kernel
theorem dL_law_922 : decode cL_law 922 = .ok (.aload_n 3, 1) := by decide +kernel
theorem dL_law_923 : decode cL_law 923 = .ok (.invokestatic 137, 3) := by decide +kernel
theorem dL_law_926 : decode cL_law 926 = .ok (.istore 5, 2) := by decide +kernel
theorem dL_law_928 : decode cL_law 928 = .ok (.aload_n 2, 1) := by decide +kernel
theorem dL_law_929 : decode cL_law 929 = .ok (.aload_n 0, 1) := by decide +kernel
theorem dL_law_930 : decode cL_law 930 = .ok (.iload 4, 2) := by decide +kernel
theorem dL_law_932 : decode cL_law 932 = .ok (.iconst 1, 1) := by decide +kernel
theorem dL_law_933 : decode cL_law 933 = .ok (.iadd, 1) := by decide +kernel
theorem dL_law_934 : decode cL_law 934 = .ok (.iaload, 1) := by decide +kernel
theorem dL_law_935 : decode cL_law 935 = .ok (.aload_n 0, 1) := by decide +kernel
theorem dL_law_936 : decode cL_law 936 = .ok (.iload 4, 2) := by decide +kernel
theorem dL_law_938 : decode cL_law 938 = .ok (.iconst 2, 1) := by decide +kernel
theorem dL_law_939 : decode cL_law 939 = .ok (.iadd, 1) := by decide +kernel
theorem dL_law_940 : decode cL_law 940 = .ok (.iaload, 1) := by decide +kernel
theorem dL_law_941 : decode cL_law 941 = .ok (.aload_n 0, 1) := by decide +kernel
theorem dL_law_942 : decode cL_law 942 = .ok (.iload 4, 2) := by decide +kernel
theorem dL_law_944 : decode cL_law 944 = .ok (.iconst 3, 1) := by decide +kernel
theorem dL_law_945 : decode cL_law 945 = .ok (.iadd, 1) := by decide +kernel
theorem dL_law_946 : decode cL_law 946 = .ok (.iaload, 1) := by decide +kernel
theorem dL_law_947 : decode cL_law 947 = .ok (.invokevirtual 139, 3) := by decide +kernel
theorem dL_law_950 : decode cL_law 950 = .ok (.istore 6, 2) := by decide +kernel
theorem dL_law_952 : decode cL_law 952 = .ok (.aload_n 2, 1) := by decide +kernel
theorem dL_law_953 : decode cL_law 953 = .ok (.invokevirtual 79, 3) := by decide +kernel
theorem dL_law_956 : decode cL_law 956 = .ok (.iload 5, 2) := by decide +kernel
theorem dL_law_958 : decode cL_law 958 = .ok (.if_icmp .eq 5, 3) := by decide +kernel
theorem dL_law_961 : decode cL_law 961 = .ok (.iconst 0, 1) := by decide +kernel
theorem dL_law_962 : decode cL_law 962 = .ok (.ireturn, 1) := by decide +kernel
theorem dL_law_963 : decode cL_law 963 = .ok (.iload 5, 2) := by decide +kernel
theorem dL_law_965 : decode cL_law 965 = .ok (.ifCond .ne 22, 3) := by decide +kernel
theorem dL_law_968 : decode cL_law 968 = .ok (.aload_n 3, 1) := by decide +kernel
theorem dL_law_969 : decode cL_law 969 = .ok (.iconst 0, 1) := by decide +kernel
theorem dL_law_970 : decode cL_law 970 = .ok (.laload, 1) := by decide +kernel
theorem dL_law_971 : decode cL_law 971 = .ok (.iload 6, 2) := by decide +kernel
theorem dL_law_973 : decode cL_law 973 = .ok (.ifCond .eq 7, 3) := by decide +kernel
theorem dL_law_976 : decode cL_law 976 = .ok (.lconst 1, 1) := by decide +kernel
theorem dL_law_977 : decode cL_law 977 = .ok (.goto 4, 3) := by decide +kernel
theorem dL_law_980 : decode cL_law 980 = .ok (.lconst 0, 1) := by decide +kernel
theorem dL_law_981 : decode cL_law 981 = .ok (.lcmp, 1) := by decide +kernel
theorem dL_law_982 : decode cL_law 982 = .ok (.ifCond .eq 5, 3) := by decide +kernel
theorem dL_law_985 : decode cL_law 985 = .ok (.iconst 0, 1) := by decide +kernel
theorem dL_law_986 : decode cL_law 986 = .ok (.ireturn, 1) := by decide +kernel
theorem dL_law_987 : decode cL_law 987 = .ok (.goto 160, 3) := by decide +kernel
theorem dL_law_990 : decode cL_law 990 = .ok (.aload_n 1, 1) := by decide +kernel
theorem dL_law_991 : decode cL_law 991 = .ok (.aload_n 0, 1) := by decide +kernel
theorem dL_law_992 : decode cL_law 992 = .ok (.iload 4, 2) := by decide +kernel
theorem dL_law_994 : decode cL_law 994 = .ok (.iconst 1, 1) := by decide +kernel
theorem dL_law_995 : decode cL_law 995 = .ok (.iadd, 1) := by decide +kernel
theorem dL_law_996 : decode cL_law 996 = .ok (.iaload, 1) := by decide +kernel
theorem dL_law_997 : decode cL_law 997 = .ok (.aload_n 3, 1) := by decide +kernel
theorem dL_law_998 : decode cL_law 998 = .ok (.invokestatic 140, 3) := by decide +kernel
theorem dL_law_1001 : decode cL_law 1001 = .ok (.istore 5, 2) := by decide +kernel
theorem dL_law_1003 : decode cL_law 1003 = .ok (.aload_n 2, 1) := by decide +kernel
theorem dL_law_1004 : decode cL_law 1004 = .ok (.aload_n 0, 1) := by decide +kernel
theorem dL_law_1005 : decode cL_law 1005 = .ok (.iload 4, 2) := by decide +kernel
theorem dL_law_1007 : decode cL_law 1007 = .ok (.iconst 1, 1) := by decide +kernel
theorem dL_law_1008 : decode cL_law 1008 = .ok (.iadd, 1) := by decide +kernel
theorem dL_law_1009 : decode cL_law 1009 = .ok (.iaload, 1) := by decide +kernel
theorem dL_law_1010 : decode cL_law 1010 = .ok (.invokevirtual 142, 3) := by decide +kernel
theorem dL_law_1013 : decode cL_law 1013 = .ok (.istore 6, 2) := by decide +kernel
theorem dL_law_1015 : decode cL_law 1015 = .ok (.aload_n 2, 1) := by decide +kernel
theorem dL_law_1016 : decode cL_law 1016 = .ok (.invokevirtual 79, 3) := by decide +kernel
theorem dL_law_1019 : decode cL_law 1019 = .ok (.iload 5, 2) := by decide +kernel
theorem dL_law_1021 : decode cL_law 1021 = .ok (.if_icmp .eq 5, 3) := by decide +kernel
theorem dL_law_1024 : decode cL_law 1024 = .ok (.iconst 0, 1) := by decide +kernel
theorem dL_law_1025 : decode cL_law 1025 = .ok (.ireturn, 1) := by decide +kernel
theorem dL_law_1026 : decode cL_law 1026 = .ok (.iload 5, 2) := by decide +kernel
theorem dL_law_1028 : decode cL_law 1028 = .ok (.ifCond .ne 22, 3) := by decide +kernel
theorem dL_law_1031 : decode cL_law 1031 = .ok (.aload_n 3, 1) := by decide +kernel
theorem dL_law_1032 : decode cL_law 1032 = .ok (.iconst 0, 1) := by decide +kernel
theorem dL_law_1033 : decode cL_law 1033 = .ok (.laload, 1) := by decide +kernel
theorem dL_law_1034 : decode cL_law 1034 = .ok (.iload 6, 2) := by decide +kernel
theorem dL_law_1036 : decode cL_law 1036 = .ok (.ifCond .eq 7, 3) := by decide +kernel
theorem dL_law_1039 : decode cL_law 1039 = .ok (.lconst 1, 1) := by decide +kernel
theorem dL_law_1040 : decode cL_law 1040 = .ok (.goto 4, 3) := by decide +kernel
theorem dL_law_1043 : decode cL_law 1043 = .ok (.lconst 0, 1) := by decide +kernel
theorem dL_law_1044 : decode cL_law 1044 = .ok (.lcmp, 1) := by decide +kernel
theorem dL_law_1045 : decode cL_law 1045 = .ok (.ifCond .eq 5, 3) := by decide +kernel
theorem dL_law_1048 : decode cL_law 1048 = .ok (.iconst 0, 1) := by decide +kernel
theorem dL_law_1049 : decode cL_law 1049 = .ok (.ireturn, 1) := by decide +kernel
theorem dL_law_1050 : decode cL_law 1050 = .ok (.goto 97, 3) := by decide +kernel
theorem dL_law_1053 : decode cL_law 1053 = .ok (.aload_n 1, 1) := by decide +kernel
theorem dL_law_1054 : decode cL_law 1054 = .ok (.aload_n 0, 1) := by decide +kernel
theorem dL_law_1055 : decode cL_law 1055 = .ok (.iload 4, 2) := by decide +kernel
theorem dL_law_1057 : decode cL_law 1057 = .ok (.iconst 1, 1) := by decide +kernel
theorem dL_law_1058 : decode cL_law 1058 = .ok (.iadd, 1) := by decide +kernel
theorem dL_law_1059 : decode cL_law 1059 = .ok (.iaload, 1) := by decide +kernel
theorem dL_law_1060 : decode cL_law 1060 = .ok (.aload_n 3, 1) := by decide +kernel
theorem dL_law_1061 : decode cL_law 1061 = .ok (.invokestatic 143, 3) := by decide +kernel
theorem dL_law_1064 : decode cL_law 1064 = .ok (.istore 5, 2) := by decide +kernel
theorem dL_law_1066 : decode cL_law 1066 = .ok (.aload_n 2, 1) := by decide +kernel
theorem dL_law_1067 : decode cL_law 1067 = .ok (.aload_n 0, 1) := by decide +kernel
theorem dL_law_1068 : decode cL_law 1068 = .ok (.iload 4, 2) := by decide +kernel
theorem dL_law_1070 : decode cL_law 1070 = .ok (.iconst 1, 1) := by decide +kernel
theorem dL_law_1071 : decode cL_law 1071 = .ok (.iadd, 1) := by decide +kernel
theorem dL_law_1072 : decode cL_law 1072 = .ok (.iaload, 1) := by decide +kernel
theorem dL_law_1073 : decode cL_law 1073 = .ok (.invokevirtual 145, 3) := by decide +kernel
theorem dL_law_1076 : decode cL_law 1076 = .ok (.istore 6, 2) := by decide +kernel
theorem dL_law_1078 : decode cL_law 1078 = .ok (.aload_n 2, 1) := by decide +kernel
theorem dL_law_1079 : decode cL_law 1079 = .ok (.invokevirtual 79, 3) := by decide +kernel
theorem dL_law_1082 : decode cL_law 1082 = .ok (.iload 5, 2) := by decide +kernel
theorem dL_law_1084 : decode cL_law 1084 = .ok (.if_icmp .eq 5, 3) := by decide +kernel
theorem dL_law_1087 : decode cL_law 1087 = .ok (.iconst 0, 1) := by decide +kernel
theorem dL_law_1088 : decode cL_law 1088 = .ok (.ireturn, 1) := by decide +kernel
theorem dL_law_1089 : decode cL_law 1089 = .ok (.iload 5, 2) := by decide +kernel
theorem dL_law_1091 : decode cL_law 1091 = .ok (.ifCond .ne 15, 3) := by decide +kernel
theorem dL_law_1094 : decode cL_law 1094 = .ok (.aload_n 3, 1) := by decide +kernel
theorem dL_law_1095 : decode cL_law 1095 = .ok (.iconst 0, 1) := by decide +kernel
theorem dL_law_1096 : decode cL_law 1096 = .ok (.laload, 1) := by decide +kernel
theorem dL_law_1097 : decode cL_law 1097 = .ok (.iload 6, 2) := by decide +kernel
theorem dL_law_1099 : decode cL_law 1099 = .ok (.i2l, 1) := by decide +kernel
theorem dL_law_1100 : decode cL_law 1100 = .ok (.lcmp, 1) := by decide +kernel
theorem dL_law_1101 : decode cL_law 1101 = .ok (.ifCond .eq 5, 3) := by decide +kernel
theorem dL_law_1104 : decode cL_law 1104 = .ok (.iconst 0, 1) := by decide +kernel
theorem dL_law_1105 : decode cL_law 1105 = .ok (.ireturn, 1) := by decide +kernel
theorem dL_law_1106 : decode cL_law 1106 = .ok (.goto 41, 3) := by decide +kernel
theorem dL_law_1109 : decode cL_law 1109 = .ok (.aload_n 1, 1) := by decide +kernel
theorem dL_law_1110 : decode cL_law 1110 = .ok (.invokevirtual 146, 3) := by decide +kernel
theorem dL_law_1113 : decode cL_law 1113 = .ok (.aload_n 2, 1) := by decide +kernel
theorem dL_law_1114 : decode cL_law 1114 = .ok (.invokevirtual 149, 3) := by decide +kernel
theorem dL_law_1117 : decode cL_law 1117 = .ok (.if_icmp .eq 30, 3) := by decide +kernel
theorem dL_law_1120 : decode cL_law 1120 = .ok (.iconst 0, 1) := by decide +kernel
theorem dL_law_1121 : decode cL_law 1121 = .ok (.ireturn, 1) := by decide +kernel
theorem dL_law_1122 : decode cL_law 1122 = .ok (.aload_n 1, 1) := by decide +kernel
theorem dL_law_1123 : decode cL_law 1123 = .ok (.aload_n 0, 1) := by decide +kernel
theorem dL_law_1124 : decode cL_law 1124 = .ok (.iload 4, 2) := by decide +kernel
theorem dL_law_1126 : decode cL_law 1126 = .ok (.iconst 1, 1) := by decide +kernel
theorem dL_law_1127 : decode cL_law 1127 = .ok (.iadd, 1) := by decide +kernel
theorem dL_law_1128 : decode cL_law 1128 = .ok (.iaload, 1) := by decide +kernel
theorem dL_law_1129 : decode cL_law 1129 = .ok (.invokevirtual 150, 3) := by decide +kernel
theorem dL_law_1132 : decode cL_law 1132 = .ok (.aload_n 2, 1) := by decide +kernel
theorem dL_law_1133 : decode cL_law 1133 = .ok (.aload_n 0, 1) := by decide +kernel
theorem dL_law_1134 : decode cL_law 1134 = .ok (.iload 4, 2) := by decide +kernel
theorem dL_law_1136 : decode cL_law 1136 = .ok (.iconst 1, 1) := by decide +kernel
theorem dL_law_1137 : decode cL_law 1137 = .ok (.iadd, 1) := by decide +kernel
theorem dL_law_1138 : decode cL_law 1138 = .ok (.iaload, 1) := by decide +kernel
theorem dL_law_1139 : decode cL_law 1139 = .ok (.invokevirtual 153, 3) := by decide +kernel
theorem dL_law_1142 : decode cL_law 1142 = .ok (.if_icmp .eq 5, 3) := by decide +kernel
theorem dL_law_1145 : decode cL_law 1145 = .ok (.iconst 0, 1) := by decide +kernel
theorem dL_law_1146 : decode cL_law 1146 = .ok (.ireturn, 1) := by decide +kernel
theorem dL_law_1147 : decode cL_law 1147 = .ok (.iinc 4 4, 3) := by decide +kernel
theorem dL_law_1150 : decode cL_law 1150 = .ok (.goto (-1107), 3) := by decide +kernel
theorem dL_law_1153 : decode cL_law 1153 = .ok (.iconst 1, 1) := by decide +kernel
theorem dL_law_1154 : decode cL_law 1154 = .ok (.ireturn, 1) := by decide +kernel
