set_option maxRecDepth 20000 in
theorem ggL_open_X4_open : GoodIn wsL_open wsX4_open := goodIn_ca (goodIn_ca (goodIn_ca (goodIn_r _ [8, 9, 10, 11, 12, 13, 14, 15, 16, 17, 18, 19, 20, 21, 22, 7, 23, 24, 25, 26, 27, 28, 29, 30, 31, 32, 33, 34, 35, 36, 37, 38, 39, 40, 41, 42, 43, 44, 45, 46, 47, 48, 49, 50, 51, 52, 53, 54, 55, 56, 57, 58, 59, 60, 61, 62, 63, 64, 65, 66, 67, 68, 69, 70, 71, 72, 73, 74, 75, 76, 77, 78, 79, 80, 81, 82, 83, 84, 85, 86, 87, 88, 89, 90, 91, 92, 93, 94, 95, 96, 97, 98, 99, 100, 101, 102, 103] (by decide +kernel) (by decide +kernel)) (goodIn_sub (fun _ h => List.mem_cons_of_mem _ (List.mem_append_left _ (List.mem_append_left _ (List.mem_append_right _ h)))) (by decide +kernel))) (goodIn_sub (fun _ h => List.mem_cons_of_mem _ (List.mem_append_left _ (List.mem_append_right _ h))) (by decide +kernel))) (goodIn_sub (fun _ h => List.mem_cons_of_mem _ (List.mem_append_right _ h)) (by decide +kernel))
set_option maxRecDepth 20000 in
theorem gL_open_X4_open : GoodIn wsL_open (wsV RL 7 RX4 yX4_open wsX4_open) := goodIn_app (goodIn_of _ (by decide +kernel)) ggL_open_X4_open
theorem dL_open_0 : decode cL_open 0 = .ok (.aload 5, 2) := by decide +kernel
theorem dL_open_2 : decode cL_open 2 = .ok (.iconst 0, 1) := by decide +kernel
theorem dL_open_3 : decode cL_open 3 = .ok (.aload_n 0, 1) := by decide +kernel
theorem dL_open_4 : decode cL_open 4 = .ok (.iload_n 1, 1) := by decide +kernel
theorem dL_open_5 : decode cL_open 5 = .ok (.iload_n 2, 1) := by decide +kernel
theorem dL_open_6 : decode cL_open 6 = .ok (.iload_n 3, 1) := by decide +kernel
theorem dL_open_7 : decode cL_open 7 = .ok (.iload 4, 2) := by decide +kernel
theorem dL_open_9 : decode cL_open 9 = .ok (.invokevirtual 7, 3) := by decide +kernel
theorem dL_open_12 : decode cL_open 12 = .ok (.i2l, 1) := by decide +kernel
theorem dL_open_13 : decode cL_open 13 = .ok (.lastore, 1) := by decide +kernel
theorem dL_open_14 : decode cL_open 14 = .ok (.goto 15, 3) := by decide +kernel
theorem dL_open_17 : decode cL_open 17 = .ok (.astore 6, 2) := by decide +kernel
theorem dL_open_19 : decode cL_open 19 = .ok (.iconst 1, 1) := by decide +kernel
theorem dL_open_20 : decode cL_open 20 = .ok (.ireturn, 1) := by decide +kernel
theorem dL_open_21 : decode cL_open 21 = .ok (.astore 6, 2) := by decide +kernel
theorem dL_open_23 : decode cL_open 23 = .ok (.iconst 2, 1) := by decide +kernel
theorem dL_open_24 : decode cL_open 24 = .ok (.ireturn, 1) := by decide +kernel
theorem dL_open_25 : decode cL_open 25 = .ok (.astore 6, 2) := by decide +kernel
theorem dL_open_27 : decode cL_open 27 = .ok (.iconst 3, 1) := by decide +kernel
theorem dL_open_28 : decode cL_open 28 = .ok (.ireturn, 1) := by decide +kernel
theorem dL_open_29 : decode cL_open 29 = .ok (.iconst 0, 1) := by decide +kernel
theorem dL_open_30 : decode cL_open 30 = .ok (.ireturn, 1) := by decide +kernel
set_option maxRecDepth 20000 in
theorem ggL_cancel_X4_cancel : GoodIn wsL_cancel wsX4_cancel := goodIn_ca (goodIn_ca (goodIn_r _ [7, 8, 9, 10, 11, 6, 12, 13, 14, 15, 16, 17, 18, 19, 20, 21, 22, 23, 24, 25, 26, 27, 28, 29, 30, 31, 32, 33, 34, 35, 36, 37, 38, 39, 40, 41, 42, 43, 44, 45, 46, 47, 48, 49, 50, 51, 52, 53, 54, 55, 56, 57, 58, 59, 60, 61, 62, 63, 64, 65, 66, 67, 68, 69, 70, 71, 72, 73, 74, 75, 76, 77, 78, 79, 80, 81, 82, 83, 84, 85, 86] (by decide +kernel) (by decide +kernel)) (goodIn_sub (fun _ h => List.mem_cons_of_mem _ (List.mem_append_left _ (List.mem_append_right _ h))) (by decide +kernel))) (goodIn_sub (fun _ h => List.mem_cons_of_mem _ (List.mem_append_right _ h)) (by decide +kernel))
set_option maxRecDepth 20000 in
theorem gL_cancel_X4_cancel : GoodIn wsL_cancel (wsV RL 19 RX4 yX4_cancel wsX4_cancel) := goodIn_app (goodIn_of _ (by decide +kernel)) ggL_cancel_X4_cancel
theorem dL_cancel_0 : decode cL_cancel 0 = .ok (.aload_n 2, 1) := by decide +kernel
theorem dL_cancel_1 : decode cL_cancel 1 = .ok (.iconst 0, 1) := by decide +kernel
theorem dL_cancel_2 : decode cL_cancel 2 = .ok (.aload_n 0, 1) := by decide +kernel
theorem dL_cancel_3 : decode cL_cancel 3 = .ok (.iload_n 1, 1) := by decide +kernel
theorem dL_cancel_4 : decode cL_cancel 4 = .ok (.invokevirtual 19, 3) := by decide +kernel
theorem dL_cancel_7 : decode cL_cancel 7 = .ok (.i2l, 1) := by decide +kernel
theorem dL_cancel_8 : decode cL_cancel 8 = .ok (.lastore, 1) := by decide +kernel
theorem dL_cancel_9 : decode cL_cancel 9 = .ok (.goto 9, 3) := by decide +kernel
theorem dL_cancel_12 : decode cL_cancel 12 = .ok (.astore_n 3, 1) := by decide +kernel
theorem dL_cancel_13 : decode cL_cancel 13 = .ok (.iconst 1, 1) := by decide +kernel
theorem dL_cancel_14 : decode cL_cancel 14 = .ok (.ireturn, 1) := by decide +kernel
theorem dL_cancel_15 : decode cL_cancel 15 = .ok (.astore_n 3, 1) := by decide +kernel
theorem dL_cancel_16 : decode cL_cancel 16 = .ok (.iconst 2, 1) := by decide +kernel
theorem dL_cancel_17 : decode cL_cancel 17 = .ok (.ireturn, 1) := by decide +kernel
theorem dL_cancel_18 : decode cL_cancel 18 = .ok (.iconst 0, 1) := by decide +kernel
theorem dL_cancel_19 : decode cL_cancel 19 = .ok (.ireturn, 1) := by decide +kernel
set_option maxRecDepth 20000 in
theorem ggL_grant_X4_grant : GoodIn wsL_grant wsX4_grant := goodIn_ca (goodIn_ca (goodIn_ca (goodIn_r _ [8, 9, 10, 11, 12, 13, 14, 15, 16, 17, 7, 18, 19, 20, 21, 22, 23, 24, 25, 26, 27, 28, 29, 30, 31, 32, 33, 34, 35, 36, 37, 38, 39, 40, 41, 42, 43, 44, 45, 46, 47, 48, 49, 50, 51, 52, 53, 54, 55, 56, 57, 58, 59, 60, 61, 62, 63, 64, 65, 66, 67, 68, 69, 70, 71, 72, 73, 74] (by decide +kernel) (by decide +kernel)) (goodIn_sub (fun _ h => List.mem_cons_of_mem _ (List.mem_append_left _ (List.mem_append_left _ (List.mem_append_right _ h)))) (by decide +kernel))) (goodIn_sub (fun _ h => List.mem_cons_of_mem _ (List.mem_append_left _ (List.mem_append_right _ h))) (by decide +kernel))) (goodIn_sub (fun _ h => List.mem_cons_of_mem _ (List.mem_append_right _ h)) (by decide +kernel))
set_option maxRecDepth 20000 in
theorem gL_grant_X4_grant : GoodIn wsL_grant (wsV RL 23 RX4 yX4_grant wsX4_grant) := goodIn_app (goodIn_of _ (by decide +kernel)) ggL_grant_X4_grant
theorem dL_grant_0 : decode cL_grant 0 = .ok (.aload_n 0, 1) := by decide +kernel
theorem dL_grant_1 : decode cL_grant 1 = .ok (.iload_n 1, 1) := by decide +kernel
theorem dL_grant_2 : decode cL_grant 2 = .ok (.iload_n 2, 1) := by decide +kernel
theorem dL_grant_3 : decode cL_grant 3 = .ok (.invokevirtual 23, 3) := by decide +kernel
theorem dL_grant_6 : decode cL_grant 6 = .ok (.goto 12, 3) := by decide +kernel
theorem dL_grant_9 : decode cL_grant 9 = .ok (.astore_n 3, 1) := by decide +kernel
theorem dL_grant_10 : decode cL_grant 10 = .ok (.iconst 1, 1) := by decide +kernel
theorem dL_grant_11 : decode cL_grant 11 = .ok (.ireturn, 1) := by decide +kernel
theorem dL_grant_12 : decode cL_grant 12 = .ok (.astore_n 3, 1) := by decide +kernel
theorem dL_grant_13 : decode cL_grant 13 = .ok (.iconst 2, 1) := by decide +kernel
theorem dL_grant_14 : decode cL_grant 14 = .ok (.ireturn, 1) := by decide +kernel
theorem dL_grant_15 : decode cL_grant 15 = .ok (.astore_n 3, 1) := by decide +kernel
theorem dL_grant_16 : decode cL_grant 16 = .ok (.iconst 3, 1) := by decide +kernel
theorem dL_grant_17 : decode cL_grant 17 = .ok (.ireturn, 1) := by decide +kernel
theorem dL_grant_18 : decode cL_grant 18 = .ok (.iconst 0, 1) := by decide +kernel
theorem dL_grant_19 : decode cL_grant 19 = .ok (.ireturn, 1) := by decide +kernel
set_option maxRecDepth 20000 in
theorem ggL_outcome_X4_outcome : GoodIn wsL_outcome wsX4_outcome := goodIn_ca (goodIn_r _ [6, 7, 8, 9, 10, 5, 11, 12, 13, 14, 15, 16, 17, 18, 19, 20, 21, 22, 23, 24, 25, 26, 27, 28, 29, 30, 31, 32, 33, 34, 35, 36, 37, 38, 39] (by decide +kernel) (by decide +kernel)) (goodIn_sub (fun _ h => List.mem_cons_of_mem _ (List.mem_append_right _ h)) (by decide +kernel))
set_option maxRecDepth 20000 in
theorem gL_outcome_X4_outcome : GoodIn wsL_outcome (wsV RL 27 RX4 yX4_outcome wsX4_outcome) := goodIn_app (goodIn_of _ (by decide +kernel)) ggL_outcome_X4_outcome
theorem dL_outcome_0 : decode cL_outcome 0 = .ok (.aload_n 2, 1) := by decide +kernel
theorem dL_outcome_1 : decode cL_outcome 1 = .ok (.iconst 0, 1) := by decide +kernel
theorem dL_outcome_2 : decode cL_outcome 2 = .ok (.aload_n 0, 1) := by decide +kernel
theorem dL_outcome_3 : decode cL_outcome 3 = .ok (.iload_n 1, 1) := by decide +kernel
theorem dL_outcome_4 : decode cL_outcome 4 = .ok (.invokevirtual 27, 3) := by decide +kernel
theorem dL_outcome_7 : decode cL_outcome 7 = .ok (.i2l, 1) := by decide +kernel
theorem dL_outcome_8 : decode cL_outcome 8 = .ok (.lastore, 1) := by decide +kernel
theorem dL_outcome_9 : decode cL_outcome 9 = .ok (.goto 6, 3) := by decide +kernel
theorem dL_outcome_12 : decode cL_outcome 12 = .ok (.astore_n 3, 1) := by decide +kernel
theorem dL_outcome_13 : decode cL_outcome 13 = .ok (.iconst 1, 1) := by decide +kernel
theorem dL_outcome_14 : decode cL_outcome 14 = .ok (.ireturn, 1) := by decide +kernel
theorem dL_outcome_15 : decode cL_outcome 15 = .ok (.iconst 0, 1) := by decide +kernel
theorem dL_outcome_16 : decode cL_outcome 16 = .ok (.ireturn, 1) := by decide +kernel
set_option maxRecDepth 20000 in
theorem ggL_value_X4_value : GoodIn wsL_value wsX4_value := goodIn_ca (goodIn_ca (goodIn_r _ [7, 8, 9, 10, 11, 12, 13, 6, 14, 15, 16, 17, 18, 19, 20, 21, 22, 23, 24, 25, 26, 27, 28, 29, 30, 31, 32, 33, 34, 35, 36, 37, 38, 39, 40, 41, 42] (by decide +kernel) (by decide +kernel)) (goodIn_sub (fun _ h => List.mem_cons_of_mem _ (List.mem_append_left _ (List.mem_append_right _ h))) (by decide +kernel))) (goodIn_sub (fun _ h => List.mem_cons_of_mem _ (List.mem_append_right _ h)) (by decide +kernel))
set_option maxRecDepth 20000 in
theorem gL_value_X4_value : GoodIn wsL_value (wsV RL 30 RX4 yX4_value wsX4_value) := goodIn_app (goodIn_of _ (by decide +kernel)) ggL_value_X4_value
theorem dL_value_0 : decode cL_value 0 = .ok (.aload_n 2, 1) := by decide +kernel
theorem dL_value_1 : decode cL_value 1 = .ok (.iconst 0, 1) := by decide +kernel
theorem dL_value_2 : decode cL_value 2 = .ok (.aload_n 0, 1) := by decide +kernel
theorem dL_value_3 : decode cL_value 3 = .ok (.iload_n 1, 1) := by decide +kernel
theorem dL_value_4 : decode cL_value 4 = .ok (.invokevirtual 30, 3) := by decide +kernel
theorem dL_value_7 : decode cL_value 7 = .ok (.i2l, 1) := by decide +kernel
theorem dL_value_8 : decode cL_value 8 = .ok (.lastore, 1) := by decide +kernel
theorem dL_value_9 : decode cL_value 9 = .ok (.goto 9, 3) := by decide +kernel
theorem dL_value_12 : decode cL_value 12 = .ok (.astore_n 3, 1) := by decide +kernel
theorem dL_value_13 : decode cL_value 13 = .ok (.iconst 1, 1) := by decide +kernel
theorem dL_value_14 : decode cL_value 14 = .ok (.ireturn, 1) := by decide +kernel
theorem dL_value_15 : decode cL_value 15 = .ok (.astore_n 3, 1) := by decide +kernel
theorem dL_value_16 : decode cL_value 16 = .ok (.iconst 2, 1) := by decide +kernel
theorem dL_value_17 : decode cL_value 17 = .ok (.ireturn, 1) := by decide +kernel
theorem dL_value_18 : decode cL_value 18 = .ok (.iconst 0, 1) := by decide +kernel
theorem dL_value_19 : decode cL_value 19 = .ok (.ireturn, 1) := by decide +kernel
set_option maxRecDepth 20000 in
theorem ggL_deadline_X4_deadline : GoodIn wsL_deadline wsX4_deadline := goodIn_ca (goodIn_r _ [6, 7, 8, 9, 10, 5, 11, 12, 13, 14, 15, 16, 17, 18, 19, 20, 21, 22, 23, 24, 25, 26, 27, 28] (by decide +kernel) (by decide +kernel)) (goodIn_sub (fun _ h => List.mem_cons_of_mem _ (List.mem_append_right _ h)) (by decide +kernel))
set_option maxRecDepth 20000 in
theorem gL_deadline_X4_deadline : GoodIn wsL_deadline (wsV RL 33 RX4 yX4_deadline wsX4_deadline) := goodIn_app (goodIn_of _ (by decide +kernel)) ggL_deadline_X4_deadline
theorem dL_deadline_0 : decode cL_deadline 0 = .ok (.aload_n 2, 1) := by decide +kernel
theorem dL_deadline_1 : decode cL_deadline 1 = .ok (.iconst 0, 1) := by decide +kernel
theorem dL_deadline_2 : decode cL_deadline 2 = .ok (.aload_n 0, 1) := by decide +kernel
theorem dL_deadline_3 : decode cL_deadline 3 = .ok (.iload_n 1, 1) := by decide +kernel
theorem dL_deadline_4 : decode cL_deadline 4 = .ok (.invokevirtual 33, 3) := by decide +kernel
theorem dL_deadline_7 : decode cL_deadline 7 = .ok (.i2l, 1) := by decide +kernel
theorem dL_deadline_8 : decode cL_deadline 8 = .ok (.lastore, 1) := by decide +kernel
theorem dL_deadline_9 : decode cL_deadline 9 = .ok (.goto 6, 3) := by decide +kernel
theorem dL_deadline_12 : decode cL_deadline 12 = .ok (.astore_n 3, 1) := by decide +kernel
theorem dL_deadline_13 : decode cL_deadline 13 = .ok (.iconst 1, 1) := by decide +kernel
theorem dL_deadline_14 : decode cL_deadline 14 = .ok (.ireturn, 1) := by decide +kernel
theorem dL_deadline_15 : decode cL_deadline 15 = .ok (.iconst 0, 1) := by decide +kernel
theorem dL_deadline_16 : decode cL_deadline 16 = .ok (.ireturn, 1) := by decide +kernel
set_option maxRecDepth 20000 in
theorem ggL_attempts_X4_attempts : GoodIn wsL_attempts wsX4_attempts := goodIn_ca (goodIn_r _ [6, 7, 8, 9, 10, 5, 11, 12, 13, 14, 15, 16, 17, 18, 19, 20, 21, 22, 23, 24, 25, 26, 27, 28, 29, 30, 31, 32, 33, 34, 35, 36, 37, 38, 39] (by decide +kernel) (by decide +kernel)) (goodIn_sub (fun _ h => List.mem_cons_of_mem _ (List.mem_append_right _ h)) (by decide +kernel))
set_option maxRecDepth 20000 in
theorem gL_attempts_X4_attempts : GoodIn wsL_attempts (wsV RL 36 RX4 yX4_attempts wsX4_attempts) := goodIn_app (goodIn_of _ (by decide +kernel)) ggL_attempts_X4_attempts
theorem dL_attempts_0 : decode cL_attempts 0 = .ok (.aload_n 2, 1) := by decide +kernel
theorem dL_attempts_1 : decode cL_attempts 1 = .ok (.iconst 0, 1) := by decide +kernel
theorem dL_attempts_2 : decode cL_attempts 2 = .ok (.aload_n 0, 1) := by decide +kernel
theorem dL_attempts_3 : decode cL_attempts 3 = .ok (.iload_n 1, 1) := by decide +kernel
theorem dL_attempts_4 : decode cL_attempts 4 = .ok (.invokevirtual 36, 3) := by decide +kernel
theorem dL_attempts_7 : decode cL_attempts 7 = .ok (.i2l, 1) := by decide +kernel
theorem dL_attempts_8 : decode cL_attempts 8 = .ok (.lastore, 1) := by decide +kernel
theorem dL_attempts_9 : decode cL_attempts 9 = .ok (.goto 6, 3) := by decide +kernel
theorem dL_attempts_12 : decode cL_attempts 12 = .ok (.astore_n 3, 1) := by decide +kernel
theorem dL_attempts_13 : decode cL_attempts 13 = .ok (.iconst 1, 1) := by decide +kernel
theorem dL_attempts_14 : decode cL_attempts 14 = .ok (.ireturn, 1) := by decide +kernel
theorem dL_attempts_15 : decode cL_attempts 15 = .ok (.iconst 0, 1) := by decide +kernel
theorem dL_attempts_16 : decode cL_attempts 16 = .ok (.ireturn, 1) := by decide +kernel
set_option maxRecDepth 20000 in
theorem ggL_received_X4_received : GoodIn wsL_received wsX4_received := goodIn_ca (goodIn_r _ [6, 7, 8, 9, 10, 5, 11, 12, 13, 14, 15, 16, 17, 18, 19, 20, 21, 22, 23, 24, 25, 26, 27, 28, 29, 30, 31, 32, 33, 34, 35, 36, 37, 38, 39] (by decide +kernel) (by decide +kernel)) (goodIn_sub (fun _ h => List.mem_cons_of_mem _ (List.mem_append_right _ h)) (by decide +kernel))
set_option maxRecDepth 20000 in
theorem gL_received_X4_received : GoodIn wsL_received (wsV RL 39 RX4 yX4_received wsX4_received) := goodIn_app (goodIn_of _ (by decide +kernel)) ggL_received_X4_received
theorem dL_received_0 : decode cL_received 0 = .ok (.aload_n 2, 1) := by decide +kernel
theorem dL_received_1 : decode cL_received 1 = .ok (.iconst 0, 1) := by decide +kernel
theorem dL_received_2 : decode cL_received 2 = .ok (.aload_n 0, 1) := by decide +kernel
theorem dL_received_3 : decode cL_received 3 = .ok (.iload_n 1, 1) := by decide +kernel
theorem dL_received_4 : decode cL_received 4 = .ok (.invokevirtual 39, 3) := by decide +kernel
theorem dL_received_7 : decode cL_received 7 = .ok (.i2l, 1) := by decide +kernel
theorem dL_received_8 : decode cL_received 8 = .ok (.lastore, 1) := by decide +kernel
theorem dL_received_9 : decode cL_received 9 = .ok (.goto 6, 3) := by decide +kernel
theorem dL_received_12 : decode cL_received 12 = .ok (.astore_n 3, 1) := by decide +kernel
theorem dL_received_13 : decode cL_received 13 = .ok (.iconst 1, 1) := by decide +kernel
theorem dL_received_14 : decode cL_received 14 = .ok (.ireturn, 1) := by decide +kernel
theorem dL_received_15 : decode cL_received 15 = .ok (.iconst 0, 1) := by decide +kernel
theorem dL_received_16 : decode cL_received 16 = .ok (.ireturn, 1) := by decide +kernel
set_option maxRecDepth 20000 in
theorem ggL_sum_X4_sum : GoodIn wsL_sum wsX4_sum := goodIn_ca (goodIn_r _ [6, 7, 8, 9, 10, 5, 11, 12, 13, 14, 15, 16, 17, 18, 19, 20, 21, 22, 23, 24, 25, 26, 27, 28, 29, 30, 31, 32, 33, 34, 35, 36, 37, 38, 39] (by decide +kernel) (by decide +kernel)) (goodIn_sub (fun _ h => List.mem_cons_of_mem _ (List.mem_append_right _ h)) (by decide +kernel))
set_option maxRecDepth 20000 in
theorem gL_sum_X4_sum : GoodIn wsL_sum (wsV RL 42 RX4 yX4_sum wsX4_sum) := goodIn_app (goodIn_of _ (by decide +kernel)) ggL_sum_X4_sum
theorem dL_sum_0 : decode cL_sum 0 = .ok (.aload_n 2, 1) := by decide +kernel
theorem dL_sum_1 : decode cL_sum 1 = .ok (.iconst 0, 1) := by decide +kernel
theorem dL_sum_2 : decode cL_sum 2 = .ok (.aload_n 0, 1) := by decide +kernel
theorem dL_sum_3 : decode cL_sum 3 = .ok (.iload_n 1, 1) := by decide +kernel
theorem dL_sum_4 : decode cL_sum 4 = .ok (.invokevirtual 42, 3) := by decide +kernel
theorem dL_sum_7 : decode cL_sum 7 = .ok (.i2l, 1) := by decide +kernel
theorem dL_sum_8 : decode cL_sum 8 = .ok (.lastore, 1) := by decide +kernel
theorem dL_sum_9 : decode cL_sum 9 = .ok (.goto 6, 3) := by decide +kernel
theorem dL_sum_12 : decode cL_sum 12 = .ok (.astore_n 3, 1) := by decide +kernel
theorem dL_sum_13 : decode cL_sum 13 = .ok (.iconst 1, 1) := by decide +kernel
theorem dL_sum_14 : decode cL_sum 14 = .ok (.ireturn, 1) := by decide +kernel
theorem dL_sum_15 : decode cL_sum 15 = .ok (.iconst 0, 1) := by decide +kernel
theorem dL_sum_16 : decode cL_sum 16 = .ok (.ireturn, 1) := by decide +kernel
set_option maxRecDepth 20000 in
theorem ggL_work_X4_work : GoodIn wsL_work wsX4_work := goodIn_ca (goodIn_ca (goodIn_r _ [7, 8, 9, 10, 11, 12, 13, 6, 14, 15, 16, 17, 18, 19, 20, 21, 22, 23, 24, 25, 26, 27, 28, 29, 30, 31, 32, 33, 34, 35, 36, 37, 38, 39, 40, 41, 42, 43, 44, 45, 46, 47, 48, 49, 50, 51, 52, 53, 54, 55, 56, 57, 58, 59, 60, 61, 62, 63, 64, 65, 66, 67, 68, 69, 70, 71, 72, 73, 74, 75, 76, 77, 78, 79, 80, 81, 82, 83, 84, 85, 86, 87, 88, 89, 90, 91, 92, 93, 94, 95, 96, 97, 98, 99, 100] (by decide +kernel) (by decide +kernel)) (goodIn_sub (fun _ h => List.mem_cons_of_mem _ (List.mem_append_left _ (List.mem_append_right _ h))) (by decide +kernel))) (goodIn_sub (fun _ h => List.mem_cons_of_mem _ (List.mem_append_right _ h)) (by decide +kernel))
set_option maxRecDepth 20000 in
theorem gL_work_X4_work : GoodIn wsL_work (wsV RL 45 RX4 yX4_work wsX4_work) := goodIn_app (goodIn_of _ (by decide +kernel)) ggL_work_X4_work
theorem dL_work_0 : decode cL_work 0 = .ok (.aload_n 2, 1) := by decide +kernel
theorem dL_work_1 : decode cL_work 1 = .ok (.iconst 0, 1) := by decide +kernel
theorem dL_work_2 : decode cL_work 2 = .ok (.aload_n 0, 1) := by decide +kernel
theorem dL_work_3 : decode cL_work 3 = .ok (.iload_n 1, 1) := by decide +kernel
theorem dL_work_4 : decode cL_work 4 = .ok (.invokevirtual 45, 3) := by decide +kernel
theorem dL_work_7 : decode cL_work 7 = .ok (.i2l, 1) := by decide +kernel
theorem dL_work_8 : decode cL_work 8 = .ok (.lastore, 1) := by decide +kernel
theorem dL_work_9 : decode cL_work 9 = .ok (.goto 9, 3) := by decide +kernel
theorem dL_work_12 : decode cL_work 12 = .ok (.astore_n 3, 1) := by decide +kernel
theorem dL_work_13 : decode cL_work 13 = .ok (.iconst 1, 1) := by decide +kernel
theorem dL_work_14 : decode cL_work 14 = .ok (.ireturn, 1) := by decide +kernel
theorem dL_work_15 : decode cL_work 15 = .ok (.astore_n 3, 1) := by decide +kernel
theorem dL_work_16 : decode cL_work 16 = .ok (.iconst 2, 1) := by decide +kernel
theorem dL_work_17 : decode cL_work 17 = .ok (.ireturn, 1) := by decide +kernel
theorem dL_work_18 : decode cL_work 18 = .ok (.iconst 0, 1) := by decide +kernel
theorem dL_work_19 : decode cL_work 19 = .ok (.ireturn, 1) := by decide +kernel
set_option maxRecDepth 20000 in
theorem ggL_task_X4_task : GoodIn wsL_task wsX4_task := goodIn_ca (goodIn_r _ [6, 7, 8, 9, 10, 5, 11, 12, 13, 14, 15, 16, 17, 18, 19, 20, 21, 22, 23, 24, 25, 26, 27, 28, 29, 30, 31, 32, 33, 34, 35, 36, 37] (by decide +kernel) (by decide +kernel)) (goodIn_sub (fun _ h => List.mem_cons_of_mem _ (List.mem_append_right _ h)) (by decide +kernel))
set_option maxRecDepth 20000 in
theorem gL_task_X4_task : GoodIn wsL_task (wsV RL 48 RX4 yX4_task wsX4_task) := goodIn_app (goodIn_of _ (by decide +kernel)) ggL_task_X4_task
theorem dL_task_0 : decode cL_task 0 = .ok (.aload_n 2, 1) := by decide +kernel
theorem dL_task_1 : decode cL_task 1 = .ok (.iconst 0, 1) := by decide +kernel
theorem dL_task_2 : decode cL_task 2 = .ok (.aload_n 0, 1) := by decide +kernel
theorem dL_task_3 : decode cL_task 3 = .ok (.iload_n 1, 1) := by decide +kernel
theorem dL_task_4 : decode cL_task 4 = .ok (.invokevirtual 48, 3) := by decide +kernel
theorem dL_task_7 : decode cL_task 7 = .ok (.i2l, 1) := by decide +kernel
theorem dL_task_8 : decode cL_task 8 = .ok (.lastore, 1) := by decide +kernel
theorem dL_task_9 : decode cL_task 9 = .ok (.goto 6, 3) := by decide +kernel
theorem dL_task_12 : decode cL_task 12 = .ok (.astore_n 3, 1) := by decide +kernel
theorem dL_task_13 : decode cL_task 13 = .ok (.iconst 1, 1) := by decide +kernel
theorem dL_task_14 : decode cL_task 14 = .ok (.ireturn, 1) := by decide +kernel
theorem dL_task_15 : decode cL_task 15 = .ok (.iconst 0, 1) := by decide +kernel
theorem dL_task_16 : decode cL_task 16 = .ok (.ireturn, 1) := by decide +kernel
set_option maxRecDepth 20000 in
theorem ggL_credits_X4_credits : GoodIn wsL_credits wsX4_credits := goodIn_ca (goodIn_r _ [6, 7, 8, 9, 10, 5, 11, 12, 13, 14, 15, 16, 17, 18, 19, 20, 21, 22, 23, 24, 25, 26, 27, 28, 29, 30, 31, 32, 33, 34, 35, 36, 37] (by decide +kernel) (by decide +kernel)) (goodIn_sub (fun _ h => List.mem_cons_of_mem _ (List.mem_append_right _ h)) (by decide +kernel))
set_option maxRecDepth 20000 in
theorem gL_credits_X4_credits : GoodIn wsL_credits (wsV RL 51 RX4 yX4_credits wsX4_credits) := goodIn_app (goodIn_of _ (by decide +kernel)) ggL_credits_X4_credits
theorem dL_credits_0 : decode cL_credits 0 = .ok (.aload_n 2, 1) := by decide +kernel
theorem dL_credits_1 : decode cL_credits 1 = .ok (.iconst 0, 1) := by decide +kernel
theorem dL_credits_2 : decode cL_credits 2 = .ok (.aload_n 0, 1) := by decide +kernel
theorem dL_credits_3 : decode cL_credits 3 = .ok (.iload_n 1, 1) := by decide +kernel
theorem dL_credits_4 : decode cL_credits 4 = .ok (.invokevirtual 51, 3) := by decide +kernel
theorem dL_credits_7 : decode cL_credits 7 = .ok (.i2l, 1) := by decide +kernel
theorem dL_credits_8 : decode cL_credits 8 = .ok (.lastore, 1) := by decide +kernel
theorem dL_credits_9 : decode cL_credits 9 = .ok (.goto 6, 3) := by decide +kernel
theorem dL_credits_12 : decode cL_credits 12 = .ok (.astore_n 3, 1) := by decide +kernel
theorem dL_credits_13 : decode cL_credits 13 = .ok (.iconst 1, 1) := by decide +kernel
theorem dL_credits_14 : decode cL_credits 14 = .ok (.ireturn, 1) := by decide +kernel
theorem dL_credits_15 : decode cL_credits 15 = .ok (.iconst 0, 1) := by decide +kernel
theorem dL_credits_16 : decode cL_credits 16 = .ok (.ireturn, 1) := by decide +kernel
set_option maxRecDepth 20000 in
theorem ggL_local_X4_local : GoodIn wsL_local wsX4_local := goodIn_ca (goodIn_ca (goodIn_r _ [7, 8, 9, 10, 11, 12, 6, 13, 14, 15, 16, 17, 18, 19, 20, 21, 22, 23, 24, 25, 26, 27, 28, 29, 30, 31, 32, 33, 34, 35, 36, 37, 38] (by decide +kernel) (by decide +kernel)) (goodIn_sub (fun _ h => List.mem_cons_of_mem _ (List.mem_append_left _ (List.mem_append_right _ h))) (by decide +kernel))) (goodIn_sub (fun _ h => List.mem_cons_of_mem _ (List.mem_append_right _ h)) (by decide +kernel))
set_option maxRecDepth 20000 in
theorem gL_local_X4_local : GoodIn wsL_local (wsV RL 54 RX4 yX4_local wsX4_local) := goodIn_app (goodIn_of _ (by decide +kernel)) ggL_local_X4_local
theorem dL_local_0 : decode cL_local 0 = .ok (.aload_n 3, 1) := by decide +kernel
theorem dL_local_1 : decode cL_local 1 = .ok (.iconst 0, 1) := by decide +kernel
theorem dL_local_2 : decode cL_local 2 = .ok (.aload_n 0, 1) := by decide +kernel
theorem dL_local_3 : decode cL_local 3 = .ok (.iload_n 1, 1) := by decide +kernel
theorem dL_local_4 : decode cL_local 4 = .ok (.iload_n 2, 1) := by decide +kernel
theorem dL_local_5 : decode cL_local 5 = .ok (.invokevirtual 54, 3) := by decide +kernel
theorem dL_local_8 : decode cL_local 8 = .ok (.i2l, 1) := by decide +kernel
theorem dL_local_9 : decode cL_local 9 = .ok (.lastore, 1) := by decide +kernel
theorem dL_local_10 : decode cL_local 10 = .ok (.goto 11, 3) := by decide +kernel
theorem dL_local_13 : decode cL_local 13 = .ok (.astore 4, 2) := by decide +kernel
theorem dL_local_15 : decode cL_local 15 = .ok (.iconst 1, 1) := by decide +kernel
theorem dL_local_16 : decode cL_local 16 = .ok (.ireturn, 1) := by decide +kernel
theorem dL_local_17 : decode cL_local 17 = .ok (.astore 4, 2) := by decide +kernel
theorem dL_local_19 : decode cL_local 19 = .ok (.iconst 2, 1) := by decide +kernel
theorem dL_local_20 : decode cL_local 20 = .ok (.ireturn, 1) := by decide +kernel
theorem dL_local_21 : decode cL_local 21 = .ok (.iconst 0, 1) := by decide +kernel
theorem dL_local_22 : decode cL_local 22 = .ok (.ireturn, 1) := by decide +kernel
set_option maxRecDepth 20000 in
theorem ggL_deliver_X4_deliver : GoodIn wsL_deliver wsX4_deliver := goodIn_ca (goodIn_ca (goodIn_r _ [7, 8, 9, 10, 11, 12, 13, 6, 14, 15, 16, 17, 18, 19, 20, 21, 22, 23, 24, 25, 26, 27, 28, 29, 30, 31, 32, 33, 34, 35, 36, 37, 38, 39, 40, 41, 42, 43, 44, 45, 46, 47, 48, 49, 50, 51, 52, 53, 54, 55, 56, 57, 58, 59, 60, 61, 62, 63, 64, 65, 66, 67, 68, 69, 70, 71, 72, 73, 74, 75, 76, 77, 78, 79, 80, 81, 82, 83, 84, 85, 86, 87, 88, 89, 90, 91, 92, 93, 94, 95, 96, 97, 98, 99, 100, 101, 102, 103, 104, 105, 106, 107, 108, 109, 110, 111, 112, 113, 114, 115, 116, 117, 118, 119, 120, 121, 122, 123, 124, 125, 126, 127, 128, 129, 130, 131, 132, 133, 134, 135, 136, 137, 138, 139, 140, 141, 142, 143, 144, 145, 146, 147, 148, 149, 150, 151, 152, 153, 154, 155, 156] (by decide +kernel) (by decide +kernel)) (goodIn_sub (fun _ h => List.mem_cons_of_mem _ (List.mem_append_left _ (List.mem_append_right _ h))) (by decide +kernel))) (goodIn_sub (fun _ h => List.mem_cons_of_mem _ (List.mem_append_right _ h)) (by decide +kernel))
set_option maxRecDepth 20000 in
theorem gL_deliver_X4_deliver : GoodIn wsL_deliver (wsV RL 58 RX4 yX4_deliver wsX4_deliver) := goodIn_app (goodIn_of _ (by decide +kernel)) ggL_deliver_X4_deliver
theorem dL_deliver_0 : decode cL_deliver 0 = .ok (.aload_n 2, 1) := by decide +kernel
theorem dL_deliver_1 : decode cL_deliver 1 = .ok (.iconst 0, 1) := by decide +kernel
theorem dL_deliver_2 : decode cL_deliver 2 = .ok (.aload_n 0, 1) := by decide +kernel
theorem dL_deliver_3 : decode cL_deliver 3 = .ok (.iload_n 1, 1) := by decide +kernel
theorem dL_deliver_4 : decode cL_deliver 4 = .ok (.invokevirtual 58, 3) := by decide +kernel
theorem dL_deliver_7 : decode cL_deliver 7 = .ok (.i2l, 1) := by decide +kernel
theorem dL_deliver_8 : decode cL_deliver 8 = .ok (.lastore, 1) := by decide +kernel
theorem dL_deliver_9 : decode cL_deliver 9 = .ok (.goto 9, 3) := by decide +kernel
theorem dL_deliver_12 : decode cL_deliver 12 = .ok (.astore_n 3, 1) := by decide +kernel
theorem dL_deliver_13 : decode cL_deliver 13 = .ok (.iconst 1, 1) := by decide +kernel
theorem dL_deliver_14 : decode cL_deliver 14 = .ok (.ireturn, 1) := by decide +kernel
theorem dL_deliver_15 : decode cL_deliver 15 = .ok (.astore_n 3, 1) := by decide +kernel
theorem dL_deliver_16 : decode cL_deliver 16 = .ok (.iconst 2, 1) := by decide +kernel
theorem dL_deliver_17 : decode cL_deliver 17 = .ok (.ireturn, 1) := by decide +kernel
theorem dL_deliver_18 : decode cL_deliver 18 = .ok (.iconst 0, 1) := by decide +kernel
theorem dL_deliver_19 : decode cL_deliver 19 = .ok (.ireturn, 1) := by decide +kernel
set_option maxRecDepth 20000 in
theorem ggL_lose_X4_lose : GoodIn wsL_lose wsX4_lose := goodIn_ca (goodIn_ca (goodIn_r _ [7, 8, 9, 6, 10, 11, 12, 13, 14, 15, 16, 17, 18, 19, 20, 21, 22, 23, 24, 25, 26, 27, 28, 29, 30, 31, 32, 33, 34, 35, 36, 37, 38, 39, 40, 41, 42, 43, 44, 45, 46, 47, 48, 49, 50, 51, 52] (by decide +kernel) (by decide +kernel)) (goodIn_sub (fun _ h => List.mem_cons_of_mem _ (List.mem_append_left _ (List.mem_append_right _ h))) (by decide +kernel))) (goodIn_sub (fun _ h => List.mem_cons_of_mem _ (List.mem_append_right _ h)) (by decide +kernel))
set_option maxRecDepth 20000 in
theorem gL_lose_X4_lose : GoodIn wsL_lose (wsV RL 61 RX4 yX4_lose wsX4_lose) := goodIn_app (goodIn_of _ (by decide +kernel)) ggL_lose_X4_lose
theorem dL_lose_0 : decode cL_lose 0 = .ok (.aload_n 2, 1) := by decide +kernel
theorem dL_lose_1 : decode cL_lose 1 = .ok (.iconst 0, 1) := by decide +kernel
theorem dL_lose_2 : decode cL_lose 2 = .ok (.aload_n 0, 1) := by decide +kernel
theorem dL_lose_3 : decode cL_lose 3 = .ok (.iload_n 1, 1) := by decide +kernel
theorem dL_lose_4 : decode cL_lose 4 = .ok (.invokevirtual 61, 3) := by decide +kernel
theorem dL_lose_7 : decode cL_lose 7 = .ok (.i2l, 1) := by decide +kernel
theorem dL_lose_8 : decode cL_lose 8 = .ok (.lastore, 1) := by decide +kernel
theorem dL_lose_9 : decode cL_lose 9 = .ok (.goto 9, 3) := by decide +kernel
theorem dL_lose_12 : decode cL_lose 12 = .ok (.astore_n 3, 1) := by decide +kernel
theorem dL_lose_13 : decode cL_lose 13 = .ok (.iconst 1, 1) := by decide +kernel
theorem dL_lose_14 : decode cL_lose 14 = .ok (.ireturn, 1) := by decide +kernel
theorem dL_lose_15 : decode cL_lose 15 = .ok (.astore_n 3, 1) := by decide +kernel
theorem dL_lose_16 : decode cL_lose 16 = .ok (.iconst 2, 1) := by decide +kernel
theorem dL_lose_17 : decode cL_lose 17 = .ok (.ireturn, 1) := by decide +kernel
theorem dL_lose_18 : decode cL_lose 18 = .ok (.iconst 0, 1) := by decide +kernel
theorem dL_lose_19 : decode cL_lose 19 = .ok (.ireturn, 1) := by decide +kernel
set_option maxRecDepth 20000 in
theorem ggL_frames_X4_frames : GoodIn wsL_frames wsX4_frames := goodIn_ca (goodIn_r _ [6, 7, 8, 5, 9, 10, 11, 12, 13, 14, 15, 16, 17, 18, 19, 20, 21, 22, 23, 24, 25, 26, 27, 28, 29] (by decide +kernel) (by decide +kernel)) (goodIn_sub (fun _ h => List.mem_cons_of_mem _ (List.mem_append_right _ h)) (by decide +kernel))
set_option maxRecDepth 20000 in
theorem gL_frames_X4_frames : GoodIn wsL_frames (wsV RL 64 RX4 yX4_frames wsX4_frames) := goodIn_app (goodIn_of _ (by decide +kernel)) ggL_frames_X4_frames
theorem dL_frames_0 : decode cL_frames 0 = .ok (.aload_n 2, 1) := by decide +kernel
theorem dL_frames_1 : decode cL_frames 1 = .ok (.iconst 0, 1) := by decide +kernel
theorem dL_frames_2 : decode cL_frames 2 = .ok (.aload_n 0, 1) := by decide +kernel
theorem dL_frames_3 : decode cL_frames 3 = .ok (.iload_n 1, 1) := by decide +kernel
theorem dL_frames_4 : decode cL_frames 4 = .ok (.invokevirtual 64, 3) := by decide +kernel
theorem dL_frames_7 : decode cL_frames 7 = .ok (.i2l, 1) := by decide +kernel
theorem dL_frames_8 : decode cL_frames 8 = .ok (.lastore, 1) := by decide +kernel
theorem dL_frames_9 : decode cL_frames 9 = .ok (.goto 6, 3) := by decide +kernel
theorem dL_frames_12 : decode cL_frames 12 = .ok (.astore_n 3, 1) := by decide +kernel
theorem dL_frames_13 : decode cL_frames 13 = .ok (.iconst 1, 1) := by decide +kernel
theorem dL_frames_14 : decode cL_frames 14 = .ok (.ireturn, 1) := by decide +kernel
theorem dL_frames_15 : decode cL_frames 15 = .ok (.iconst 0, 1) := by decide +kernel
theorem dL_frames_16 : decode cL_frames 16 = .ok (.ireturn, 1) := by decide +kernel
set_option maxRecDepth 20000 in
theorem ggL_frame_X4_frame : GoodIn wsL_frame wsX4_frame := goodIn_ca (goodIn_ca (goodIn_r _ [7, 8, 9, 6, 10, 11, 12, 13, 14, 15, 16, 17, 18, 19, 20, 21, 22, 23, 24, 25, 26, 27, 28, 29, 30, 31, 32, 33, 34, 35, 36, 37, 38, 39, 40, 41, 42, 43, 44, 45, 46, 47, 48] (by decide +kernel) (by decide +kernel)) (goodIn_sub (fun _ h => List.mem_cons_of_mem _ (List.mem_append_left _ (List.mem_append_right _ h))) (by decide +kernel))) (goodIn_sub (fun _ h => List.mem_cons_of_mem _ (List.mem_append_right _ h)) (by decide +kernel))
set_option maxRecDepth 20000 in
theorem gL_frame_X4_frame : GoodIn wsL_frame (wsV RL 67 RX4 yX4_frame wsX4_frame) := goodIn_app (goodIn_of _ (by decide +kernel)) ggL_frame_X4_frame
theorem dL_frame_0 : decode cL_frame 0 = .ok (.aload_n 3, 1) := by decide +kernel
theorem dL_frame_1 : decode cL_frame 1 = .ok (.iconst 0, 1) := by decide +kernel
theorem dL_frame_2 : decode cL_frame 2 = .ok (.aload_n 0, 1) := by decide +kernel
theorem dL_frame_3 : decode cL_frame 3 = .ok (.iload_n 1, 1) := by decide +kernel
theorem dL_frame_4 : decode cL_frame 4 = .ok (.iload_n 2, 1) := by decide +kernel
theorem dL_frame_5 : decode cL_frame 5 = .ok (.invokevirtual 67, 3) := by decide +kernel
theorem dL_frame_8 : decode cL_frame 8 = .ok (.i2l, 1) := by decide +kernel
theorem dL_frame_9 : decode cL_frame 9 = .ok (.lastore, 1) := by decide +kernel
theorem dL_frame_10 : decode cL_frame 10 = .ok (.goto 11, 3) := by decide +kernel
theorem dL_frame_13 : decode cL_frame 13 = .ok (.astore 4, 2) := by decide +kernel
theorem dL_frame_15 : decode cL_frame 15 = .ok (.iconst 1, 1) := by decide +kernel
theorem dL_frame_16 : decode cL_frame 16 = .ok (.ireturn, 1) := by decide +kernel
theorem dL_frame_17 : decode cL_frame 17 = .ok (.astore 4, 2) := by decide +kernel
theorem dL_frame_19 : decode cL_frame 19 = .ok (.iconst 2, 1) := by decide +kernel
theorem dL_frame_20 : decode cL_frame 20 = .ok (.ireturn, 1) := by decide +kernel
theorem dL_frame_21 : decode cL_frame 21 = .ok (.iconst 0, 1) := by decide +kernel
theorem dL_frame_22 : decode cL_frame 22 = .ok (.ireturn, 1) := by decide +kernel
set_option maxRecDepth 20000 in
theorem ggL_frameValue_X4_frameValue : GoodIn wsL_frameValue wsX4_frameValue := goodIn_ca (goodIn_ca (goodIn_r _ [7, 8, 9, 6, 10, 11, 12, 13, 14, 15, 16, 17, 18, 19, 20, 21, 22, 23, 24, 25, 26, 27, 28, 29, 30, 31, 32, 33, 34, 35, 36, 37, 38, 39, 40, 41, 42, 43, 44, 45, 46, 47, 48] (by decide +kernel) (by decide +kernel)) (goodIn_sub (fun _ h => List.mem_cons_of_mem _ (List.mem_append_left _ (List.mem_append_right _ h))) (by decide +kernel))) (goodIn_sub (fun _ h => List.mem_cons_of_mem _ (List.mem_append_right _ h)) (by decide +kernel))
set_option maxRecDepth 20000 in
theorem gL_frameValue_X4_frameValue : GoodIn wsL_frameValue (wsV RL 70 RX4 yX4_frameValue wsX4_frameValue) := goodIn_app (goodIn_of _ (by decide +kernel)) ggL_frameValue_X4_frameValue
theorem dL_frameValue_0 : decode cL_frameValue 0 = .ok (.aload_n 3, 1) := by decide +kernel
theorem dL_frameValue_1 : decode cL_frameValue 1 = .ok (.iconst 0, 1) := by decide +kernel
theorem dL_frameValue_2 : decode cL_frameValue 2 = .ok (.aload_n 0, 1) := by decide +kernel
theorem dL_frameValue_3 : decode cL_frameValue 3 = .ok (.iload_n 1, 1) := by decide +kernel
theorem dL_frameValue_4 : decode cL_frameValue 4 = .ok (.iload_n 2, 1) := by decide +kernel
theorem dL_frameValue_5 : decode cL_frameValue 5 = .ok (.invokevirtual 70, 3) := by decide +kernel
theorem dL_frameValue_8 : decode cL_frameValue 8 = .ok (.i2l, 1) := by decide +kernel
theorem dL_frameValue_9 : decode cL_frameValue 9 = .ok (.lastore, 1) := by decide +kernel
theorem dL_frameValue_10 : decode cL_frameValue 10 = .ok (.goto 11, 3) := by decide +kernel
theorem dL_frameValue_13 : decode cL_frameValue 13 = .ok (.astore 4, 2) := by decide +kernel
theorem dL_frameValue_15 : decode cL_frameValue 15 = .ok (.iconst 1, 1) := by decide +kernel
theorem dL_frameValue_16 : decode cL_frameValue 16 = .ok (.ireturn, 1) := by decide +kernel
theorem dL_frameValue_17 : decode cL_frameValue 17 = .ok (.astore 4, 2) := by decide +kernel
theorem dL_frameValue_19 : decode cL_frameValue 19 = .ok (.iconst 2, 1) := by decide +kernel
theorem dL_frameValue_20 : decode cL_frameValue 20 = .ok (.ireturn, 1) := by decide +kernel
theorem dL_frameValue_21 : decode cL_frameValue 21 = .ok (.iconst 0, 1) := by decide +kernel
theorem dL_frameValue_22 : decode cL_frameValue 22 = .ok (.ireturn, 1) := by decide +kernel
set_option maxRecDepth 20000 in
theorem ggL_pass_X4_pass : GoodIn wsL_pass wsX4_pass := goodIn_ca (goodIn_r _ [6, 7, 8, 9, 10, 11, 12, 13, 14, 15, 16, 17, 18, 19, 20, 21, 22, 23, 24, 25, 26, 27, 28, 29, 30, 31, 32, 33, 34, 35, 36, 37, 38, 39, 40, 41, 42, 43, 44, 45, 46, 47, 48, 49, 50, 51, 52, 53, 54, 55, 56, 57, 58, 59, 60, 61, 62, 63, 64, 65, 66, 67, 68, 69, 70, 71, 72, 73, 74, 75, 76, 77, 78, 79, 80, 81, 82, 83, 84, 85, 86, 87, 88, 89, 90, 91, 92, 93, 94, 95, 96, 97, 98, 99, 100, 101, 102, 103, 104, 105, 106, 107, 108, 109, 110, 111, 112, 113] (by decide +kernel) (by decide +kernel)) (goodIn_sub (fun _ h => List.mem_cons_of_mem _ (List.mem_append_right _ h)) (by decide +kernel))
set_option maxRecDepth 20000 in
theorem gL_pass_X4_pass : GoodIn wsL_pass (wsV RL 73 RX4 yX4_pass wsX4_pass) := goodIn_app (goodIn_of _ (by decide +kernel)) ggL_pass_X4_pass
theorem dL_pass_0 : decode cL_pass 0 = .ok (.aload_n 2, 1) := by decide +kernel
theorem dL_pass_1 : decode cL_pass 1 = .ok (.iconst 0, 1) := by decide +kernel
theorem dL_pass_2 : decode cL_pass 2 = .ok (.aload_n 0, 1) := by decide +kernel
theorem dL_pass_3 : decode cL_pass 3 = .ok (.iload_n 1, 1) := by decide +kernel
theorem dL_pass_4 : decode cL_pass 4 = .ok (.invokevirtual 73, 3) := by decide +kernel
theorem dL_pass_7 : decode cL_pass 7 = .ok (.i2l, 1) := by decide +kernel
theorem dL_pass_8 : decode cL_pass 8 = .ok (.lastore, 1) := by decide +kernel
theorem dL_pass_9 : decode cL_pass 9 = .ok (.goto 6, 3) := by decide +kernel
theorem dL_pass_12 : decode cL_pass 12 = .ok (.astore_n 3, 1) := by decide +kernel
theorem dL_pass_13 : decode cL_pass 13 = .ok (.iconst 1, 1) := by decide +kernel
theorem dL_pass_14 : decode cL_pass 14 = .ok (.ireturn, 1) := by decide +kernel
theorem dL_pass_15 : decode cL_pass 15 = .ok (.iconst 0, 1) := by decide +kernel
theorem dL_pass_16 : decode cL_pass 16 = .ok (.ireturn, 1) := by decide +kernel
set_option maxRecDepth 20000 in
theorem ggL_law_X4_init : GoodIn wsL_law wsX4_init := goodIn_r _ [9, 10, 11, 12, 13, 14, 15, 16, 17, 18, 19, 20, 21, 22, 23, 24, 25, 26, 27, 28, 29, 30, 31, 32, 33, 34, 35, 36, 37, 38, 39, 40, 41, 42, 43, 44, 45, 46, 47, 48, 49, 50, 51, 52, 53, 54, 55, 56, 57, 58, 59, 60, 61, 62, 63, 64, 65, 66, 595, 596, 597, 598, 564, 565, 566, 567, 568, 569, 599, 600, 601, 602, 603, 604, 605, 606, 607, 608, 609, 610, 611, 612, 613, 614, 615, 616, 617, 618, 619, 620, 621, 622] (by decide +kernel) (by decide +kernel)
set_option maxRecDepth 20000 in
theorem gL_law_X4_init : GoodIn wsL_law (wsX4_init) := ggL_law_X4_init
set_option maxRecDepth 20000 in
theorem ggL_law_X5_init : GoodIn wsL_law wsX5_init := goodIn_r _ [69, 70, 11, 12, 71, 33, 72, 73, 74, 75, 76, 77, 78, 79, 80, 81, 82, 83, 84, 85, 86, 87, 88, 89, 90, 91, 92, 570, 571, 572, 573, 574, 575, 576, 577, 578, 579, 580, 581, 582, 583, 584, 585, 586, 587, 588, 589, 590, 591, 592, 593, 594] (by decide +kernel) (by decide +kernel)
set_option maxRecDepth 20000 in
theorem gL_law_X5_init : GoodIn wsL_law (wsX5_init) := ggL_law_X5_init
set_option maxRecDepth 20000 in
theorem ggL_law_L_open : GoodIn wsL_law wsL_open := goodIn_ca (goodIn_ca (goodIn_ca (goodIn_r _ [96, 97, 98, 99, 100, 101, 102, 2, 103, 104, 105, 106, 107, 16, 108, 109, 110, 111, 112, 25, 113, 114, 115, 116, 117, 118, 119, 15, 120, 121, 122, 123, 124, 125, 126, 127, 128, 129, 130, 131, 132, 133, 134, 135, 34, 35, 36, 136, 24, 137, 138, 47, 48, 139, 140, 141, 142, 50, 51, 56, 143, 19, 144, 145, 146, 40, 41, 42, 43, 147, 148, 149, 150, 151, 152, 153, 154, 155, 564, 565, 566, 567, 568, 569, 595, 596, 597, 598, 605, 606, 607, 608, 609, 610, 611, 612, 613, 614, 599, 600, 601, 602, 603, 604] (by decide +kernel) (by decide +kernel)) (goodIn_sub (fun _ h => List.mem_append_left _ (List.mem_append_left _ (List.mem_append_right _ h))) (by decide +kernel))) (goodIn_sub (fun _ h => List.mem_append_left _ (List.mem_append_right _ h)) (by decide +kernel))) (goodIn_sub (fun _ h => List.mem_append_right _ h) (by decide +kernel))
set_option maxRecDepth 20000 in
theorem gL_law_L_open : GoodIn wsL_law (va_wsS RL 80 yL_open wsL_open) := goodIn_app (goodIn_of _ (by decide +kernel)) ggL_law_L_open
set_option maxRecDepth 20000 in
theorem ggL_law_X5_open : GoodIn wsL_law wsX5_open := goodIn_r _ [159, 160, 78, 92, 72, 73, 74, 75, 161, 162, 163, 5, 164, 165, 166, 167, 168, 169, 170, 171, 172, 76, 77, 173, 174, 175, 176, 87, 88, 89, 90, 91, 570, 571, 572, 573, 574, 575, 576, 577, 578, 579, 580, 581, 582, 583, 584, 585, 586, 587, 588, 589, 590, 591, 592, 593, 594] (by decide +kernel) (by decide +kernel)
set_option maxRecDepth 20000 in
theorem gL_law_X5_open : GoodIn wsL_law (wsV RL 85 RX5 yX5_open wsX5_open) := goodIn_app (goodIn_of _ (by decide +kernel)) ggL_law_X5_open
set_option maxRecDepth 20000 in
theorem ggL_law_X5_thrown : GoodIn wsL_law wsX5_thrown := goodIn_r _ [180, 92, 570, 571, 572, 573, 574, 575, 576, 577, 578, 579, 580, 581, 582, 583, 584, 585, 586, 587, 588, 589, 590, 591, 592, 593, 594] (by decide +kernel) (by decide +kernel)
set_option maxRecDepth 20000 in
theorem gL_law_X5_thrown : GoodIn wsL_law (wsV RL 86 RX5 yX5_thrown wsX5_thrown) := goodIn_app (goodIn_of _ (by decide +kernel)) ggL_law_X5_thrown
set_option maxRecDepth 20000 in
theorem ggL_law_L_cancel : GoodIn wsL_law wsL_cancel := goodIn_ca (goodIn_ca (goodIn_r _ [183, 97, 99, 184, 185, 186, 2, 187, 25, 113, 114, 115, 116, 117, 118, 16, 119, 15, 120, 121, 122, 126, 127, 128, 129, 106, 107, 188, 24, 189, 190, 48, 56, 143, 19, 144, 145, 146, 40, 41, 42, 43, 147, 148, 149, 150, 151, 152, 153, 154, 155, 191, 192, 193, 194, 55, 195, 196, 197, 198, 47, 564, 565, 566, 567, 568, 569, 595, 596, 597, 598, 605, 606, 607, 608, 609, 610, 611, 612, 613, 614, 599, 600, 601, 602, 603, 604] (by decide +kernel) (by decide +kernel)) (goodIn_sub (fun _ h => List.mem_append_right _ h) (by decide +kernel))) (goodIn_sub (fun _ h => List.mem_append_left _ (List.mem_append_right _ h)) (by decide +kernel))
set_option maxRecDepth 20000 in
theorem gL_law_L_cancel : GoodIn wsL_law (va_wsS RL 90 yL_cancel wsL_cancel) := goodIn_app (goodIn_of _ (by decide +kernel)) ggL_law_L_cancel
set_option maxRecDepth 20000 in
theorem ggL_law_X5_cancel : GoodIn wsL_law wsX5_cancel := goodIn_r _ [202, 78, 92, 165, 166, 167, 5, 168, 160, 162, 163, 164, 203, 204, 205, 206, 71, 173, 174, 175, 176, 87, 88, 89, 90, 91, 207, 208, 209, 210, 74, 570, 571, 572, 573, 574, 575, 576, 577, 578, 579, 580, 581, 582, 583, 584, 585, 586, 587, 588, 589, 590, 591, 592, 593, 594] (by decide +kernel) (by decide +kernel)
set_option maxRecDepth 20000 in
theorem gL_law_X5_cancel : GoodIn wsL_law (wsV RL 93 RX5 yX5_cancel wsX5_cancel) := goodIn_app (goodIn_of _ (by decide +kernel)) ggL_law_X5_cancel
set_option maxRecDepth 20000 in
theorem ggL_law_L_grant : GoodIn wsL_law wsL_grant := goodIn_ca (goodIn_ca (goodIn_ca (goodIn_r _ [213, 97, 98, 99, 214, 215, 216, 2, 217, 104, 105, 106, 107, 16, 20, 113, 114, 115, 116, 117, 118, 119, 15, 120, 121, 122, 126, 127, 128, 129, 25, 143, 19, 144, 145, 146, 40, 41, 42, 43, 147, 148, 149, 150, 151, 152, 153, 154, 155, 564, 565, 566, 567, 568, 569, 595, 596, 597, 598, 605, 606, 607, 608, 609, 610, 611, 612, 613, 614, 599, 600, 601, 602, 603, 604] (by decide +kernel) (by decide +kernel)) (goodIn_sub (fun _ h => List.mem_append_left _ (List.mem_append_left _ (List.mem_append_right _ h))) (by decide +kernel))) (goodIn_sub (fun _ h => List.mem_append_left _ (List.mem_append_right _ h)) (by decide +kernel))) (goodIn_sub (fun _ h => List.mem_append_right _ h) (by decide +kernel))
set_option maxRecDepth 20000 in
theorem gL_law_L_grant : GoodIn wsL_law (va_wsS RL 94 yL_grant wsL_grant) := goodIn_app (goodIn_of _ (by decide +kernel)) ggL_law_L_grant
set_option maxRecDepth 20000 in
theorem ggL_law_X5_grant : GoodIn wsL_law wsX5_grant := goodIn_r _ [221, 72, 78, 92, 165, 166, 167, 5, 168, 160, 162, 163, 164, 173, 174, 175, 176, 87, 88, 89, 90, 91, 570, 571, 572, 573, 574, 575, 576, 577, 578, 579, 580, 581, 582, 583, 584, 585, 586, 587, 588, 589, 590, 591, 592, 593, 594] (by decide +kernel) (by decide +kernel)
set_option maxRecDepth 20000 in
theorem gL_law_X5_grant : GoodIn wsL_law (wsV RL 97 RX5 yX5_grant wsX5_grant) := goodIn_app (goodIn_of _ (by decide +kernel)) ggL_law_X5_grant
set_option maxRecDepth 20000 in
theorem ggL_law_X4_calls : GoodIn wsL_law wsX4_calls := goodIn_r _ [225, 16, 564, 565, 566, 567, 568, 569, 595, 596, 597, 598] (by decide +kernel) (by decide +kernel)
set_option maxRecDepth 20000 in
theorem gL_law_X4_calls : GoodIn wsL_law (wsV RL 98 RX4 yX4_calls wsX4_calls) := goodIn_app (goodIn_of _ (by decide +kernel)) ggL_law_X4_calls
set_option maxRecDepth 20000 in
theorem ggL_law_X5_calls : GoodIn wsL_law wsX5_calls := goodIn_r _ [229, 92, 160, 570, 571, 572, 573, 574, 575, 576, 577, 578, 579, 580, 581, 582, 583, 584, 585, 586, 587, 588, 589, 590, 591, 592, 593, 594] (by decide +kernel) (by decide +kernel)
set_option maxRecDepth 20000 in
theorem gL_law_X5_calls : GoodIn wsL_law (wsV RL 101 RX5 yX5_calls wsX5_calls) := goodIn_app (goodIn_of _ (by decide +kernel)) ggL_law_X5_calls
set_option maxRecDepth 20000 in
theorem ggL_law_L_outcome : GoodIn wsL_law wsL_outcome := goodIn_ca (goodIn_r _ [232, 97, 233, 234, 235, 2, 236, 25, 113, 114, 115, 116, 117, 118, 16, 119, 15, 120, 121, 122, 564, 565, 566, 567, 568, 569, 605, 606, 607, 608, 609, 610, 611, 612, 613, 614, 595, 596, 597, 598] (by decide +kernel) (by decide +kernel)) (goodIn_sub (fun _ h => List.mem_append_right _ h) (by decide +kernel))
set_option maxRecDepth 20000 in
theorem gL_law_L_outcome : GoodIn wsL_law (va_wsS RL 102 yL_outcome wsL_outcome) := goodIn_app (goodIn_of _ (by decide +kernel)) ggL_law_L_outcome
set_option maxRecDepth 20000 in
theorem ggL_law_X5_outcome : GoodIn wsL_law wsX5_outcome := goodIn_r _ [240, 78, 241, 242, 243, 5, 244, 92, 165, 166, 167, 168, 160, 162, 163, 164, 245, 246, 247, 248, 570, 571, 572, 573, 574, 575, 576, 577, 578, 579, 580, 581, 582, 583, 584, 585, 586, 587, 588, 589, 590, 591, 592, 593, 594] (by decide +kernel) (by decide +kernel)
set_option maxRecDepth 20000 in
theorem gL_law_X5_outcome : GoodIn wsL_law (wsV RL 104 RX5 yX5_outcome wsX5_outcome) := goodIn_app (goodIn_of _ (by decide +kernel)) ggL_law_X5_outcome
set_option maxRecDepth 20000 in
theorem ggL_law_L_value : GoodIn wsL_law wsL_value := goodIn_ca (goodIn_ca (goodIn_r _ [251, 97, 99, 252, 253, 254, 2, 255, 106, 107, 25, 113, 114, 115, 116, 117, 118, 16, 119, 15, 120, 121, 122, 564, 565, 566, 567, 568, 569, 605, 606, 607, 608, 609, 610, 611, 612, 613, 614, 595, 596, 597, 598] (by decide +kernel) (by decide +kernel)) (goodIn_sub (fun _ h => List.mem_append_left _ (List.mem_append_right _ h)) (by decide +kernel))) (goodIn_sub (fun _ h => List.mem_append_right _ h) (by decide +kernel))
set_option maxRecDepth 20000 in
theorem gL_law_L_value : GoodIn wsL_law (va_wsS RL 105 yL_value wsL_value) := goodIn_app (goodIn_of _ (by decide +kernel)) ggL_law_L_value
set_option maxRecDepth 20000 in
theorem ggL_law_X5_value : GoodIn wsL_law wsX5_value := goodIn_r _ [259, 78, 92, 79, 165, 166, 167, 5, 168, 160, 162, 163, 164, 570, 571, 572, 573, 574, 575, 576, 577, 578, 579, 580, 581, 582, 583, 584, 585, 586, 587, 588, 589, 590, 591, 592, 593, 594] (by decide +kernel) (by decide +kernel)
set_option maxRecDepth 20000 in
theorem gL_law_X5_value : GoodIn wsL_law (wsV RL 107 RX5 yX5_value wsX5_value) := goodIn_app (goodIn_of _ (by decide +kernel)) ggL_law_X5_value
set_option maxRecDepth 20000 in
theorem ggL_law_L_deadline : GoodIn wsL_law wsL_deadline := goodIn_ca (goodIn_r _ [262, 97, 263, 264, 265, 2, 266, 16, 113, 114, 115, 116, 117, 118, 119, 15, 120, 121, 122, 564, 565, 566, 567, 568, 569, 595, 596, 597, 598] (by decide +kernel) (by decide +kernel)) (goodIn_sub (fun _ h => List.mem_append_right _ h) (by decide +kernel))
set_option maxRecDepth 20000 in
theorem gL_law_L_deadline : GoodIn wsL_law (va_wsS RL 108 yL_deadline wsL_deadline) := goodIn_app (goodIn_of _ (by decide +kernel)) ggL_law_L_deadline
set_option maxRecDepth 20000 in
theorem ggL_law_X5_deadline : GoodIn wsL_law wsX5_deadline := goodIn_r _ [270, 75, 241, 242, 243, 5, 244, 92, 165, 166, 167, 168, 160, 162, 163, 164, 245, 246, 247, 248, 570, 571, 572, 573, 574, 575, 576, 577, 578, 579, 580, 581, 582, 583, 584, 585, 586, 587, 588, 589, 590, 591, 592, 593, 594] (by decide +kernel) (by decide +kernel)
set_option maxRecDepth 20000 in
theorem gL_law_X5_deadline : GoodIn wsL_law (wsV RL 110 RX5 yX5_deadline wsX5_deadline) := goodIn_app (goodIn_of _ (by decide +kernel)) ggL_law_X5_deadline
set_option maxRecDepth 20000 in
theorem ggL_law_L_attempts : GoodIn wsL_law wsL_attempts := goodIn_ca (goodIn_r _ [273, 97, 274, 275, 276, 2, 277, 25, 113, 114, 115, 116, 117, 118, 16, 119, 15, 120, 121, 122, 564, 565, 566, 567, 568, 569, 605, 606, 607, 608, 609, 610, 611, 612, 613, 614, 595, 596, 597, 598] (by decide +kernel) (by decide +kernel)) (goodIn_sub (fun _ h => List.mem_append_right _ h) (by decide +kernel))
set_option maxRecDepth 20000 in
theorem gL_law_L_attempts : GoodIn wsL_law (va_wsS RL 111 yL_attempts wsL_attempts) := goodIn_app (goodIn_of _ (by decide +kernel)) ggL_law_L_attempts
set_option maxRecDepth 20000 in
theorem ggL_law_X5_attempts : GoodIn wsL_law wsX5_attempts := goodIn_r _ [281, 76, 241, 242, 243, 5, 244, 92, 165, 166, 167, 168, 160, 162, 163, 164, 245, 246, 247, 248, 570, 571, 572, 573, 574, 575, 576, 577, 578, 579, 580, 581, 582, 583, 584, 585, 586, 587, 588, 589, 590, 591, 592, 593, 594] (by decide +kernel) (by decide +kernel)
set_option maxRecDepth 20000 in
theorem gL_law_X5_attempts : GoodIn wsL_law (wsV RL 113 RX5 yX5_attempts wsX5_attempts) := goodIn_app (goodIn_of _ (by decide +kernel)) ggL_law_X5_attempts
set_option maxRecDepth 20000 in
theorem ggL_law_L_received : GoodIn wsL_law wsL_received := goodIn_ca (goodIn_r _ [284, 97, 285, 286, 287, 2, 288, 25, 113, 114, 115, 116, 117, 118, 16, 119, 15, 120, 121, 122, 564, 565, 566, 567, 568, 569, 605, 606, 607, 608, 609, 610, 611, 612, 613, 614, 595, 596, 597, 598] (by decide +kernel) (by decide +kernel)) (goodIn_sub (fun _ h => List.mem_append_right _ h) (by decide +kernel))
set_option maxRecDepth 20000 in
theorem gL_law_L_received : GoodIn wsL_law (va_wsS RL 114 yL_received wsL_received) := goodIn_app (goodIn_of _ (by decide +kernel)) ggL_law_L_received
set_option maxRecDepth 20000 in
theorem ggL_law_X5_received : GoodIn wsL_law wsX5_received := goodIn_r _ [292, 80, 241, 242, 243, 5, 244, 92, 165, 166, 167, 168, 160, 162, 163, 164, 245, 246, 247, 248, 570, 571, 572, 573, 574, 575, 576, 577, 578, 579, 580, 581, 582, 583, 584, 585, 586, 587, 588, 589, 590, 591, 592, 593, 594] (by decide +kernel) (by decide +kernel)
set_option maxRecDepth 20000 in
theorem gL_law_X5_received : GoodIn wsL_law (wsV RL 116 RX5 yX5_received wsX5_received) := goodIn_app (goodIn_of _ (by decide +kernel)) ggL_law_X5_received
set_option maxRecDepth 20000 in
theorem ggL_law_L_sum : GoodIn wsL_law wsL_sum := goodIn_ca (goodIn_r _ [295, 97, 296, 297, 298, 2, 299, 25, 113, 114, 115, 116, 117, 118, 16, 119, 15, 120, 121, 122, 564, 565, 566, 567, 568, 569, 605, 606, 607, 608, 609, 610, 611, 612, 613, 614, 595, 596, 597, 598] (by decide +kernel) (by decide +kernel)) (goodIn_sub (fun _ h => List.mem_append_right _ h) (by decide +kernel))
set_option maxRecDepth 20000 in
theorem gL_law_L_sum : GoodIn wsL_law (va_wsS RL 117 yL_sum wsL_sum) := goodIn_app (goodIn_of _ (by decide +kernel)) ggL_law_L_sum
set_option maxRecDepth 20000 in
theorem ggL_law_X5_sum : GoodIn wsL_law wsX5_sum := goodIn_r _ [303, 81, 241, 242, 243, 5, 244, 92, 165, 166, 167, 168, 160, 162, 163, 164, 245, 246, 247, 248, 570, 571, 572, 573, 574, 575, 576, 577, 578, 579, 580, 581, 582, 583, 584, 585, 586, 587, 588, 589, 590, 591, 592, 593, 594] (by decide +kernel) (by decide +kernel)
set_option maxRecDepth 20000 in
theorem gL_law_X5_sum : GoodIn wsL_law (wsV RL 119 RX5 yX5_sum wsX5_sum) := goodIn_app (goodIn_of _ (by decide +kernel)) ggL_law_X5_sum
set_option maxRecDepth 20000 in
theorem ggL_law_X4_tokens : GoodIn wsL_law wsX4_tokens := goodIn_r _ [307, 25, 564, 565, 566, 567, 568, 569, 605, 606, 607, 608, 609, 610, 611, 612, 613, 614] (by decide +kernel) (by decide +kernel)
set_option maxRecDepth 20000 in
theorem gL_law_X4_tokens : GoodIn wsL_law (wsV RL 120 RX4 yX4_tokens wsX4_tokens) := goodIn_app (goodIn_of _ (by decide +kernel)) ggL_law_X4_tokens
set_option maxRecDepth 20000 in
theorem ggL_law_X5_tokens : GoodIn wsL_law wsX5_tokens := goodIn_r _ [311, 92, 71, 570, 571, 572, 573, 574, 575, 576, 577, 578, 579, 580, 581, 582, 583, 584, 585, 586, 587, 588, 589, 590, 591, 592, 593, 594] (by decide +kernel) (by decide +kernel)
set_option maxRecDepth 20000 in
theorem gL_law_X5_tokens : GoodIn wsL_law (wsV RL 123 RX5 yX5_tokens wsX5_tokens) := goodIn_app (goodIn_of _ (by decide +kernel)) ggL_law_X5_tokens
set_option maxRecDepth 20000 in
theorem ggL_law_L_work : GoodIn wsL_law wsL_work := goodIn_ca (goodIn_ca (goodIn_r _ [314, 97, 99, 315, 316, 317, 2, 318, 106, 107, 29, 113, 114, 115, 116, 117, 118, 16, 119, 15, 120, 121, 122, 319, 28, 320, 321, 65, 62, 322, 323, 324, 325, 326, 327, 328, 329, 66, 61, 143, 19, 144, 145, 146, 40, 41, 42, 43, 147, 148, 149, 150, 151, 152, 153, 154, 155, 330, 331, 332, 333, 334, 63, 64, 60, 335, 336, 337, 338, 339, 340, 111, 341, 342, 343, 344, 345, 564, 565, 566, 567, 568, 569, 615, 616, 617, 618, 619, 620, 621, 622, 595, 596, 597, 598, 599, 600, 601, 602, 603, 604] (by decide +kernel) (by decide +kernel)) (goodIn_sub (fun _ h => List.mem_append_left _ (List.mem_append_right _ h)) (by decide +kernel))) (goodIn_sub (fun _ h => List.mem_append_right _ h) (by decide +kernel))
set_option maxRecDepth 20000 in
theorem gL_law_L_work : GoodIn wsL_law (va_wsS RL 124 yL_work wsL_work) := goodIn_app (goodIn_of _ (by decide +kernel)) ggL_law_L_work
set_option maxRecDepth 20000 in
theorem ggL_law_X5_work : GoodIn wsL_law wsX5_work := goodIn_r _ [349, 92, 73, 72, 84, 82, 83, 350, 165, 166, 167, 5, 168, 160, 162, 163, 164, 351, 352, 353, 173, 174, 175, 176, 87, 88, 89, 90, 91, 354, 355, 356, 357, 85, 86, 358, 359, 360, 361, 570, 571, 572, 573, 574, 575, 576, 577, 578, 579, 580, 581, 582, 583, 584, 585, 586, 587, 588, 589, 590, 591, 592, 593, 594] (by decide +kernel) (by decide +kernel)
set_option maxRecDepth 20000 in
theorem gL_law_X5_work : GoodIn wsL_law (wsV RL 126 RX5 yX5_work wsX5_work) := goodIn_app (goodIn_of _ (by decide +kernel)) ggL_law_X5_work
set_option maxRecDepth 20000 in
theorem ggL_law_L_task : GoodIn wsL_law wsL_task := goodIn_ca (goodIn_r _ [364, 97, 365, 366, 367, 2, 368, 29, 113, 114, 115, 116, 117, 118, 16, 119, 15, 120, 121, 122, 564, 565, 566, 567, 568, 569, 615, 616, 617, 618, 619, 620, 621, 622, 595, 596, 597, 598] (by decide +kernel) (by decide +kernel)) (goodIn_sub (fun _ h => List.mem_append_right _ h) (by decide +kernel))
set_option maxRecDepth 20000 in
theorem gL_law_L_task : GoodIn wsL_law (va_wsS RL 127 yL_task wsL_task) := goodIn_app (goodIn_of _ (by decide +kernel)) ggL_law_L_task
set_option maxRecDepth 20000 in
theorem ggL_law_X5_task : GoodIn wsL_law wsX5_task := goodIn_r _ [372, 82, 241, 242, 243, 5, 244, 92, 165, 166, 167, 168, 160, 162, 163, 164, 245, 246, 247, 248, 570, 571, 572, 573, 574, 575, 576, 577, 578, 579, 580, 581, 582, 583, 584, 585, 586, 587, 588, 589, 590, 591, 592, 593, 594] (by decide +kernel) (by decide +kernel)
set_option maxRecDepth 20000 in
theorem gL_law_X5_task : GoodIn wsL_law (wsV RL 129 RX5 yX5_task wsX5_task) := goodIn_app (goodIn_of _ (by decide +kernel)) ggL_law_X5_task
set_option maxRecDepth 20000 in
theorem ggL_law_L_credits : GoodIn wsL_law wsL_credits := goodIn_ca (goodIn_r _ [375, 97, 376, 377, 378, 2, 379, 29, 113, 114, 115, 116, 117, 118, 16, 119, 15, 120, 121, 122, 564, 565, 566, 567, 568, 569, 615, 616, 617, 618, 619, 620, 621, 622, 595, 596, 597, 598] (by decide +kernel) (by decide +kernel)) (goodIn_sub (fun _ h => List.mem_append_right _ h) (by decide +kernel))
set_option maxRecDepth 20000 in
theorem gL_law_L_credits : GoodIn wsL_law (va_wsS RL 130 yL_credits wsL_credits) := goodIn_app (goodIn_of _ (by decide +kernel)) ggL_law_L_credits
set_option maxRecDepth 20000 in
theorem ggL_law_X5_credits : GoodIn wsL_law wsX5_credits := goodIn_r _ [383, 83, 241, 242, 243, 5, 244, 92, 165, 166, 167, 168, 160, 162, 163, 164, 245, 246, 247, 248, 570, 571, 572, 573, 574, 575, 576, 577, 578, 579, 580, 581, 582, 583, 584, 585, 586, 587, 588, 589, 590, 591, 592, 593, 594] (by decide +kernel) (by decide +kernel)
set_option maxRecDepth 20000 in
theorem gL_law_X5_credits : GoodIn wsL_law (wsV RL 132 RX5 yX5_credits wsX5_credits) := goodIn_app (goodIn_of _ (by decide +kernel)) ggL_law_X5_credits
set_option maxRecDepth 20000 in
theorem ggL_law_X4_total : GoodIn wsL_law wsX4_total := goodIn_r _ [387, 29, 564, 565, 566, 567, 568, 569, 615, 616, 617, 618, 619, 620, 621, 622] (by decide +kernel) (by decide +kernel)
set_option maxRecDepth 20000 in
theorem gL_law_X4_total : GoodIn wsL_law (wsV RL 133 RX4 yX4_total wsX4_total) := goodIn_app (goodIn_of _ (by decide +kernel)) ggL_law_X4_total
set_option maxRecDepth 20000 in
theorem ggL_law_X5_total : GoodIn wsL_law wsX5_total := goodIn_r _ [391, 92, 350, 570, 571, 572, 573, 574, 575, 576, 577, 578, 579, 580, 581, 582, 583, 584, 585, 586, 587, 588, 589, 590, 591, 592, 593, 594] (by decide +kernel) (by decide +kernel)
set_option maxRecDepth 20000 in
theorem gL_law_X5_total : GoodIn wsL_law (wsV RL 136 RX5 yX5_total wsX5_total) := goodIn_app (goodIn_of _ (by decide +kernel)) ggL_law_X5_total
set_option maxRecDepth 20000 in
theorem ggL_law_L_local : GoodIn wsL_law wsL_local := goodIn_ca (goodIn_ca (goodIn_r _ [394, 98, 99, 395, 396, 397, 2, 398, 106, 107, 29, 123, 124, 125, 104, 105, 336, 28, 337, 338, 334, 339, 340, 111, 341, 564, 565, 566, 567, 568, 569, 615, 616, 617, 618, 619, 620, 621, 622] (by decide +kernel) (by decide +kernel)) (goodIn_sub (fun _ h => List.mem_append_left _ (List.mem_append_right _ h)) (by decide +kernel))) (goodIn_sub (fun _ h => List.mem_append_left _ (List.mem_append_left _ (List.mem_append_right _ h))) (by decide +kernel))
set_option maxRecDepth 20000 in
theorem gL_law_L_local : GoodIn wsL_law (va_wsS RL 137 yL_local wsL_local) := goodIn_app (goodIn_of _ (by decide +kernel)) ggL_law_L_local
set_option maxRecDepth 20000 in
theorem ggL_law_X5_local : GoodIn wsL_law wsX5_local := goodIn_r _ [402, 92, 350, 162, 163, 5, 164, 351, 352, 353, 570, 571, 572, 573, 574, 575, 576, 577, 578, 579, 580, 581, 582, 583, 584, 585, 586, 587, 588, 589, 590, 591, 592, 593, 594] (by decide +kernel) (by decide +kernel)
set_option maxRecDepth 20000 in
theorem gL_law_X5_local : GoodIn wsL_law (wsV RL 140 RX5 yX5_local wsX5_local) := goodIn_app (goodIn_of _ (by decide +kernel)) ggL_law_X5_local
set_option maxRecDepth 20000 in
theorem ggL_law_L_deliver : GoodIn wsL_law wsL_deliver := goodIn_ca (goodIn_ca (goodIn_r _ [405, 98, 99, 406, 407, 408, 2, 409, 16, 29, 108, 25, 410, 411, 412, 104, 105, 413, 414, 415, 416, 20, 21, 417, 418, 419, 106, 107, 420, 19, 421, 422, 146, 148, 149, 150, 151, 152, 153, 154, 155, 423, 424, 425, 147, 119, 15, 120, 121, 122, 426, 28, 427, 428, 60, 61, 429, 430, 431, 432, 65, 342, 343, 344, 345, 66, 63, 64, 143, 144, 145, 40, 41, 42, 43, 433, 434, 435, 36, 436, 437, 438, 439, 440, 24, 441, 442, 48, 443, 444, 445, 446, 55, 52, 49, 54, 447, 110, 111, 112, 448, 449, 450, 451, 191, 192, 193, 194, 56, 195, 196, 197, 198, 47, 452, 453, 454, 455, 53, 456, 188, 189, 190, 599, 600, 601, 602, 603, 604, 564, 565, 566, 567, 568, 569, 595, 596, 597, 598, 615, 616, 617, 618, 619, 620, 621, 622, 605, 606, 607, 608, 609, 610, 611, 612, 613, 614] (by decide +kernel) (by decide +kernel)) (goodIn_sub (fun _ h => List.mem_append_left _ (List.mem_append_left _ (List.mem_append_right _ h))) (by decide +kernel))) (goodIn_sub (fun _ h => List.mem_append_left _ (List.mem_append_right _ h)) (by decide +kernel))
set_option maxRecDepth 20000 in
theorem gL_law_L_deliver : GoodIn wsL_law (va_wsS RL 141 yL_deliver wsL_deliver) := goodIn_app (goodIn_of _ (by decide +kernel)) ggL_law_L_deliver
set_option maxRecDepth 20000 in
theorem ggL_law_X5_deliver : GoodIn wsL_law wsX5_deliver := goodIn_r _ [460, 92, 88, 89, 90, 91, 461, 462, 463, 5, 464, 87, 162, 163, 164, 465, 466, 467, 468, 469, 470, 471, 472, 82, 161, 75, 83, 358, 359, 360, 361, 85, 86, 173, 174, 175, 176, 473, 474, 475, 476, 78, 72, 80, 79, 81, 203, 204, 205, 206, 71, 160, 207, 208, 209, 210, 74, 570, 571, 572, 573, 574, 575, 576, 577, 578, 579, 580, 581, 582, 583, 584, 585, 586, 587, 588, 589, 590, 591, 592, 593, 594] (by decide +kernel) (by decide +kernel)
set_option maxRecDepth 20000 in
theorem gL_law_X5_deliver : GoodIn wsL_law (wsV RL 143 RX5 yX5_deliver wsX5_deliver) := goodIn_app (goodIn_of _ (by decide +kernel)) ggL_law_X5_deliver
set_option maxRecDepth 20000 in
theorem ggL_law_L_lose : GoodIn wsL_law wsL_lose := goodIn_ca (goodIn_ca (goodIn_r _ [479, 98, 99, 480, 481, 482, 2, 483, 410, 411, 412, 104, 105, 413, 414, 415, 416, 20, 21, 417, 418, 419, 106, 107, 420, 19, 421, 422, 146, 148, 149, 150, 151, 152, 153, 154, 155, 423, 424, 425, 147, 599, 600, 601, 602, 603, 604, 564, 565, 566, 567, 568, 569] (by decide +kernel) (by decide +kernel)) (goodIn_sub (fun _ h => List.mem_append_left _ (List.mem_append_left _ (List.mem_append_right _ h))) (by decide +kernel))) (goodIn_sub (fun _ h => List.mem_append_left _ (List.mem_append_right _ h)) (by decide +kernel))
set_option maxRecDepth 20000 in
theorem gL_law_L_lose : GoodIn wsL_law (va_wsS RL 144 yL_lose wsL_lose) := goodIn_app (goodIn_of _ (by decide +kernel)) ggL_law_L_lose
set_option maxRecDepth 20000 in
theorem ggL_law_X5_lose : GoodIn wsL_law wsX5_lose := goodIn_r _ [487, 92, 89, 461, 462, 463, 5, 464, 87, 162, 163, 164, 465, 466, 467, 468, 88, 90, 91, 570, 571, 572, 573, 574, 575, 576, 577, 578, 579, 580, 581, 582, 583, 584, 585, 586, 587, 588, 589, 590, 591, 592, 593, 594] (by decide +kernel) (by decide +kernel)
set_option maxRecDepth 20000 in
theorem gL_law_X5_lose : GoodIn wsL_law (wsV RL 146 RX5 yX5_lose wsX5_lose) := goodIn_app (goodIn_of _ (by decide +kernel)) ggL_law_X5_lose
set_option maxRecDepth 20000 in
theorem ggL_law_L_frames : GoodIn wsL_law wsL_frames := goodIn_ca (goodIn_r _ [490, 98, 491, 492, 493, 2, 494, 410, 411, 412, 104, 105, 413, 414, 415, 416, 20, 21, 599, 600, 601, 602, 603, 604, 564, 565, 566, 567, 568, 569] (by decide +kernel) (by decide +kernel)) (goodIn_sub (fun _ h => List.mem_append_left _ (List.mem_append_left _ (List.mem_append_right _ h))) (by decide +kernel))
set_option maxRecDepth 20000 in
theorem gL_law_L_frames : GoodIn wsL_law (va_wsS RL 147 yL_frames wsL_frames) := goodIn_app (goodIn_of _ (by decide +kernel)) ggL_law_L_frames
set_option maxRecDepth 20000 in
theorem ggL_law_X5_frames : GoodIn wsL_law wsX5_frames := goodIn_r _ [498, 92, 87, 162, 163, 5, 164, 245, 246, 247, 248, 570, 571, 572, 573, 574, 575, 576, 577, 578, 579, 580, 581, 582, 583, 584, 585, 586, 587, 588, 589, 590, 591, 592, 593, 594] (by decide +kernel) (by decide +kernel)
set_option maxRecDepth 20000 in
theorem gL_law_X5_frames : GoodIn wsL_law (wsV RL 149 RX5 yX5_frames wsX5_frames) := goodIn_app (goodIn_of _ (by decide +kernel)) ggL_law_X5_frames
set_option maxRecDepth 20000 in
theorem ggL_law_L_frame : GoodIn wsL_law wsL_frame := goodIn_ca (goodIn_ca (goodIn_r _ [501, 97, 98, 502, 503, 504, 2, 505, 410, 411, 412, 104, 105, 413, 414, 415, 416, 20, 21, 506, 507, 508, 117, 118, 420, 19, 421, 422, 146, 148, 149, 150, 151, 152, 153, 154, 155, 599, 600, 601, 602, 603, 604, 564, 565, 566, 567, 568, 569] (by decide +kernel) (by decide +kernel)) (goodIn_sub (fun _ h => List.mem_append_left _ (List.mem_append_left _ (List.mem_append_right _ h))) (by decide +kernel))) (goodIn_sub (fun _ h => List.mem_append_right _ h) (by decide +kernel))
set_option maxRecDepth 20000 in
theorem gL_law_L_frame : GoodIn wsL_law (va_wsS RL 150 yL_frame wsL_frame) := goodIn_app (goodIn_of _ (by decide +kernel)) ggL_law_L_frame
set_option maxRecDepth 20000 in
theorem ggL_law_X5_frame : GoodIn wsL_law wsX5_frame := goodIn_r _ [512, 92, 88, 89, 513, 514, 515, 5, 516, 87, 162, 163, 164, 570, 571, 572, 573, 574, 575, 576, 577, 578, 579, 580, 581, 582, 583, 584, 585, 586, 587, 588, 589, 590, 591, 592, 593, 594] (by decide +kernel) (by decide +kernel)
set_option maxRecDepth 20000 in
theorem gL_law_X5_frame : GoodIn wsL_law (wsV RL 152 RX5 yX5_frame wsX5_frame) := goodIn_app (goodIn_of _ (by decide +kernel)) ggL_law_X5_frame
set_option maxRecDepth 20000 in
theorem ggL_law_L_frameValue : GoodIn wsL_law wsL_frameValue := goodIn_ca (goodIn_ca (goodIn_r _ [519, 97, 98, 520, 521, 522, 2, 523, 410, 411, 412, 104, 105, 413, 414, 415, 416, 20, 21, 506, 507, 508, 117, 118, 420, 19, 421, 422, 146, 148, 149, 150, 151, 152, 153, 154, 155, 599, 600, 601, 602, 603, 604, 564, 565, 566, 567, 568, 569] (by decide +kernel) (by decide +kernel)) (goodIn_sub (fun _ h => List.mem_append_left _ (List.mem_append_left _ (List.mem_append_right _ h))) (by decide +kernel))) (goodIn_sub (fun _ h => List.mem_append_right _ h) (by decide +kernel))
set_option maxRecDepth 20000 in
theorem gL_law_L_frameValue : GoodIn wsL_law (va_wsS RL 153 yL_frameValue wsL_frameValue) := goodIn_app (goodIn_of _ (by decide +kernel)) ggL_law_L_frameValue
set_option maxRecDepth 20000 in
theorem ggL_law_X5_frameValue : GoodIn wsL_law wsX5_frameValue := goodIn_r _ [527, 92, 91, 513, 514, 515, 5, 516, 87, 162, 163, 164, 570, 571, 572, 573, 574, 575, 576, 577, 578, 579, 580, 581, 582, 583, 584, 585, 586, 587, 588, 589, 590, 591, 592, 593, 594] (by decide +kernel) (by decide +kernel)
set_option maxRecDepth 20000 in
theorem gL_law_X5_frameValue : GoodIn wsL_law (wsV RL 155 RX5 yX5_frameValue wsX5_frameValue) := goodIn_app (goodIn_of _ (by decide +kernel)) ggL_law_X5_frameValue
set_option maxRecDepth 20000 in
theorem ggL_law_L_pass : GoodIn wsL_law wsL_pass := goodIn_ca (goodIn_r _ [530, 98, 531, 532, 533, 2, 534, 104, 105, 108, 25, 29, 535, 24, 536, 537, 55, 48, 433, 15, 434, 435, 36, 448, 449, 450, 451, 191, 192, 193, 194, 56, 195, 196, 197, 198, 47, 119, 120, 121, 122, 143, 19, 144, 145, 146, 40, 41, 42, 43, 147, 148, 149, 150, 151, 152, 153, 154, 155, 538, 28, 539, 540, 65, 60, 541, 542, 543, 54, 544, 545, 546, 547, 52, 50, 51, 139, 140, 141, 142, 564, 565, 566, 567, 568, 569, 605, 606, 607, 608, 609, 610, 611, 612, 613, 614, 595, 596, 597, 598, 599, 600, 601, 602, 603, 604, 615, 616, 617, 618, 619, 620, 621, 622] (by decide +kernel) (by decide +kernel)) (goodIn_sub (fun _ h => List.mem_append_left _ (List.mem_append_left _ (List.mem_append_right _ h))) (by decide +kernel))
set_option maxRecDepth 20000 in
theorem gL_law_L_pass : GoodIn wsL_law (va_wsS RL 156 yL_pass wsL_pass) := goodIn_app (goodIn_of _ (by decide +kernel)) ggL_law_L_pass
set_option maxRecDepth 20000 in
theorem ggL_law_X5_pass : GoodIn wsL_law wsX5_pass := goodIn_r _ [551, 92, 162, 163, 5, 164, 552, 553, 554, 555, 161, 160, 78, 75, 82, 80, 77, 76, 71, 203, 204, 205, 206, 173, 174, 175, 176, 87, 88, 89, 90, 91, 207, 208, 209, 210, 74, 169, 170, 171, 172, 570, 571, 572, 573, 574, 575, 576, 577, 578, 579, 580, 581, 582, 583, 584, 585, 586, 587, 588, 589, 590, 591, 592, 593, 594] (by decide +kernel) (by decide +kernel)
set_option maxRecDepth 20000 in
theorem gL_law_X5_pass : GoodIn wsL_law (wsV RL 158 RX5 yX5_pass wsX5_pass) := goodIn_app (goodIn_of _ (by decide +kernel)) ggL_law_X5_pass
set_option maxRecDepth 20000 in
theorem ggL_law_X4_now : GoodIn wsL_law wsX4_now := goodIn_r _ [559, 108, 564, 565, 566, 567, 568, 569] (by decide +kernel) (by decide +kernel)
set_option maxRecDepth 20000 in
theorem gL_law_X4_now : GoodIn wsL_law (wsV RL 159 RX4 yX4_now wsX4_now) := goodIn_app (goodIn_of _ (by decide +kernel)) ggL_law_X4_now
set_option maxRecDepth 20000 in
theorem ggL_law_X5_now : GoodIn wsL_law wsX5_now := goodIn_r _ [563, 92, 161, 570, 571, 572, 573, 574, 575, 576, 577, 578, 579, 580, 581, 582, 583, 584, 585, 586, 587, 588, 589, 590, 591, 592, 593, 594] (by decide +kernel) (by decide +kernel)
set_option maxRecDepth 20000 in
theorem gL_law_X5_now : GoodIn wsL_law (wsV RL 162 RX5 yX5_now wsX5_now) := goodIn_app (goodIn_of _ (by decide +kernel)) ggL_law_X5_now
