set_option maxRecDepth 20000 in
theorem ggX4_init_X0_init : GoodIn wsX4_init wsX0_init := goodIn_r _ [22, 23, 2, 3, 24, 25, 26, 27, 58, 59, 60, 61] (by decide +kernel) (by decide +kernel)
set_option maxRecDepth 20000 in
theorem gX4_init_X0_init_n9 : GoodIn wsX4_init (wsX0_init) := ggX4_init_X0_init
set_option maxRecDepth 20000 in
theorem ggX4_init_X2_init : GoodIn wsX4_init wsX2_init := goodIn_r _ [29, 30, 2, 3, 24, 31, 32, 33, 34, 68, 69, 70, 71, 72, 73] (by decide +kernel) (by decide +kernel)
set_option maxRecDepth 20000 in
theorem gX4_init_X2_init_n18 : GoodIn wsX4_init (wsX2_init) := ggX4_init_X2_init
set_option maxRecDepth 20000 in
theorem ggX4_init_X1_init : GoodIn wsX4_init wsX1_init := goodIn_r _ [36, 37, 2, 3, 24, 38, 39, 40, 41, 42, 43, 44, 45, 46, 47, 74, 75, 76, 77, 78, 79, 80, 81, 82, 83] (by decide +kernel) (by decide +kernel)
set_option maxRecDepth 20000 in
theorem gX4_init_X1_init_n28 : GoodIn wsX4_init (wsX1_init) := ggX4_init_X1_init
set_option maxRecDepth 20000 in
theorem ggX4_init_X3_init : GoodIn wsX4_init wsX3_init := goodIn_r _ [49, 50, 2, 3, 24, 51, 52, 53, 54, 55, 56, 57, 84, 85, 86, 87, 88, 89, 90, 91] (by decide +kernel) (by decide +kernel)
set_option maxRecDepth 20000 in
theorem gX4_init_X3_init_n37 : GoodIn wsX4_init (wsX3_init) := ggX4_init_X3_init
theorem dX4_init_0 : decode cX4_init 0 = .ok (.aload_n 0, 1) := by decide +kernel
theorem dX4_init_1 : decode cX4_init 1 = .ok (.invokespecial 1, 3) := by decide +kernel
theorem dX4_init_4 : decode cX4_init 4 = .ok (.aload_n 0, 1) := by decide +kernel
theorem dX4_init_5 : decode cX4_init 5 = .ok (.new 7, 3) := by decide +kernel
theorem dX4_init_8 : decode cX4_init 8 = .ok (.dup, 1) := by decide +kernel
theorem dX4_init_9 : decode cX4_init 9 = .ok (.invokespecial 9, 3) := by decide +kernel
theorem dX4_init_12 : decode cX4_init 12 = .ok (.putfield 10, 3) := by decide +kernel
theorem dX4_init_15 : decode cX4_init 15 = .ok (.aload_n 0, 1) := by decide +kernel
theorem dX4_init_16 : decode cX4_init 16 = .ok (.new 16, 3) := by decide +kernel
theorem dX4_init_19 : decode cX4_init 19 = .ok (.dup, 1) := by decide +kernel
theorem dX4_init_20 : decode cX4_init 20 = .ok (.invokespecial 18, 3) := by decide +kernel
theorem dX4_init_23 : decode cX4_init 23 = .ok (.putfield 19, 3) := by decide +kernel
theorem dX4_init_26 : decode cX4_init 26 = .ok (.aload_n 0, 1) := by decide +kernel
theorem dX4_init_27 : decode cX4_init 27 = .ok (.new 16, 3) := by decide +kernel
theorem dX4_init_30 : decode cX4_init 30 = .ok (.dup, 1) := by decide +kernel
theorem dX4_init_31 : decode cX4_init 31 = .ok (.invokespecial 18, 3) := by decide +kernel
theorem dX4_init_34 : decode cX4_init 34 = .ok (.putfield 23, 3) := by decide +kernel
theorem dX4_init_37 : decode cX4_init 37 = .ok (.aload_n 0, 1) := by decide +kernel
theorem dX4_init_38 : decode cX4_init 38 = .ok (.new 26, 3) := by decide +kernel
theorem dX4_init_41 : decode cX4_init 41 = .ok (.dup, 1) := by decide +kernel
theorem dX4_init_42 : decode cX4_init 42 = .ok (.aload_n 0, 1) := by decide +kernel
theorem dX4_init_43 : decode cX4_init 43 = .ok (.getfield 10, 3) := by decide +kernel
theorem dX4_init_46 : decode cX4_init 46 = .ok (.aload_n 0, 1) := by decide +kernel
theorem dX4_init_47 : decode cX4_init 47 = .ok (.getfield 19, 3) := by decide +kernel
theorem dX4_init_50 : decode cX4_init 50 = .ok (.invokespecial 28, 3) := by decide +kernel
theorem dX4_init_53 : decode cX4_init 53 = .ok (.putfield 31, 3) := by decide +kernel
theorem dX4_init_56 : decode cX4_init 56 = .ok (.aload_n 0, 1) := by decide +kernel
theorem dX4_init_57 : decode cX4_init 57 = .ok (.new 35, 3) := by decide +kernel
theorem dX4_init_60 : decode cX4_init 60 = .ok (.dup, 1) := by decide +kernel
theorem dX4_init_61 : decode cX4_init 61 = .ok (.aload_n 0, 1) := by decide +kernel
theorem dX4_init_62 : decode cX4_init 62 = .ok (.getfield 10, 3) := by decide +kernel
theorem dX4_init_65 : decode cX4_init 65 = .ok (.aload_n 0, 1) := by decide +kernel
theorem dX4_init_66 : decode cX4_init 66 = .ok (.getfield 23, 3) := by decide +kernel
theorem dX4_init_69 : decode cX4_init 69 = .ok (.invokespecial 37, 3) := by decide +kernel
theorem dX4_init_72 : decode cX4_init 72 = .ok (.putfield 38, 3) := by decide +kernel
theorem dX4_init_75 : decode cX4_init 75 = .ok (.return_, 1) := by decide +kernel
set_option maxRecDepth 20000 in
theorem ggX4_open_X4_needCall : GoodIn wsX4_open wsX4_needCall := goodIn_ca (goodIn_r _ [16, 17, 18, 5, 19, 20, 21, 22, 23, 71, 72, 73, 74, 75, 76, 77, 78, 79, 80] (by decide +kernel) (by decide +kernel)) (goodIn_sub (fun _ h => List.mem_cons_of_mem _ (List.mem_append_right _ h)) (by decide +kernel))
set_option maxRecDepth 20000 in
theorem gX4_open_X4_needCall : GoodIn wsX4_open (wsV RX4 42 RX4 yX4_needCall wsX4_needCall) := goodIn_app (goodIn_of _ (by decide +kernel)) ggX4_open_X4_needCall
set_option maxRecDepth 20000 in
theorem ggX4_open_X4_needMethodAndArgument : GoodIn wsX4_open wsX4_needMethodAndArgument := goodIn_ca (goodIn_r _ [26, 1, 2] (by decide +kernel) (by decide +kernel)) (goodIn_sub (fun _ h => List.mem_cons_of_mem _ (List.mem_append_left _ (List.mem_append_left _ (List.mem_append_right _ h)))) (by decide +kernel))
set_option maxRecDepth 20000 in
theorem gX4_open_X4_needMethodAndArgument : GoodIn wsX4_open (va_wsS RX4 46 yX4_needMethodAndArgument wsX4_needMethodAndArgument) := goodIn_app (goodIn_of _ (by decide +kernel)) ggX4_open_X4_needMethodAndArgument
set_option maxRecDepth 20000 in
theorem ggX4_open_X4_needOpenCall : GoodIn wsX4_open wsX4_needOpenCall := goodIn_ca (goodIn_r _ [30, 3, 4, 11, 71, 72, 73, 74, 75, 76, 81, 82, 83, 84, 85, 86, 87, 88, 89, 90] (by decide +kernel) (by decide +kernel)) (goodIn_sub (fun _ h => List.mem_cons_of_mem _ (List.mem_append_left _ (List.mem_append_right _ h))) (by decide +kernel))
set_option maxRecDepth 20000 in
theorem gX4_open_X4_needOpenCall : GoodIn wsX4_open (wsV RX4 57 RX4 yX4_needOpenCall wsX4_needOpenCall) := goodIn_app (goodIn_of _ (by decide +kernel)) ggX4_open_X4_needOpenCall
set_option maxRecDepth 20000 in
theorem ggX4_open_X0_isFull : GoodIn wsX4_open wsX0_isFull := goodIn_r _ [33, 23, 77, 78, 79, 80] (by decide +kernel) (by decide +kernel)
set_option maxRecDepth 20000 in
theorem gX4_open_X0_isFull_n60 : GoodIn wsX4_open (wsX0_isFull) := ggX4_open_X0_isFull
set_option maxRecDepth 20000 in
theorem ggX4_open_X0_enter : GoodIn wsX4_open wsX0_enter := goodIn_r _ [36, 23, 37, 38, 39, 77, 78, 79, 80] (by decide +kernel) (by decide +kernel)
set_option maxRecDepth 20000 in
theorem gX4_open_X0_enter_n83 : GoodIn wsX4_open (wsX0_enter) := ggX4_open_X0_enter
set_option maxRecDepth 20000 in
theorem ggX4_open_X1_begin : GoodIn wsX4_open wsX1_begin := goodIn_r _ [43, 44, 45, 46, 47, 48, 41, 49, 50, 51, 52, 53, 54, 55, 56, 57, 58, 59, 60, 61, 62, 63, 64, 65, 66, 67, 68, 69, 70, 81, 82, 83, 84, 85, 86, 87, 88, 89, 90, 91, 92, 93, 94, 95, 96] (by decide +kernel) (by decide +kernel)
set_option maxRecDepth 20000 in
theorem gX4_open_X1_begin_n87 : GoodIn wsX4_open (wsX1_begin) := ggX4_open_X1_begin
theorem dX4_open_0 : decode cX4_open 0 = .ok (.iload 4, 2) := by decide +kernel
theorem dX4_open_2 : decode cX4_open 2 = .ok (.iconst (-1), 1) := by decide +kernel
theorem dX4_open_3 : decode cX4_open 3 = .ok (.if_icmp .eq 9, 3) := by decide +kernel
theorem dX4_open_6 : decode cX4_open 6 = .ok (.aload_n 0, 1) := by decide +kernel
theorem dX4_open_7 : decode cX4_open 7 = .ok (.iload 4, 2) := by decide +kernel
theorem dX4_open_9 : decode cX4_open 9 = .ok (.invokevirtual 42, 3) := by decide +kernel
theorem dX4_open_12 : decode cX4_open 12 = .ok (.iload_n 1, 1) := by decide +kernel
theorem dX4_open_13 : decode cX4_open 13 = .ok (.iload_n 2, 1) := by decide +kernel
theorem dX4_open_14 : decode cX4_open 14 = .ok (.invokestatic 46, 3) := by decide +kernel
theorem dX4_open_17 : decode cX4_open 17 = .ok (.iload_n 3, 1) := by decide +kernel
theorem dX4_open_18 : decode cX4_open 18 = .ok (.iconst 1, 1) := by decide +kernel
theorem dX4_open_19 : decode cX4_open 19 = .ok (.if_icmp .lt 10, 3) := by decide +kernel
theorem dX4_open_22 : decode cX4_open 22 = .ok (.iload_n 3, 1) := by decide +kernel
theorem dX4_open_23 : decode cX4_open 23 = .ok (.sipush 1000, 3) := by decide +kernel
theorem dX4_open_26 : decode cX4_open 26 = .ok (.if_icmp .le 13, 3) := by decide +kernel
theorem dX4_open_29 : decode cX4_open 29 = .ok (.new 50, 3) := by decide +kernel
theorem dX4_open_32 : decode cX4_open 32 = .ok (.dup, 1) := by decide +kernel
theorem dX4_open_33 : decode cX4_open 33 = .ok (.ldc 52, 2) := by decide +kernel
theorem dX4_open_35 : decode cX4_open 35 = .ok (.invokespecial 54, 3) := by decide +kernel
theorem dX4_open_38 : decode cX4_open 38 = .ok (.athrow, 1) := by decide +kernel
theorem dX4_open_39 : decode cX4_open 39 = .ok (.iload 4, 2) := by decide +kernel
theorem dX4_open_41 : decode cX4_open 41 = .ok (.iconst (-1), 1) := by decide +kernel
theorem dX4_open_42 : decode cX4_open 42 = .ok (.if_icmp .eq 9, 3) := by decide +kernel
theorem dX4_open_45 : decode cX4_open 45 = .ok (.aload_n 0, 1) := by decide +kernel
theorem dX4_open_46 : decode cX4_open 46 = .ok (.iload 4, 2) := by decide +kernel
theorem dX4_open_48 : decode cX4_open 48 = .ok (.invokevirtual 57, 3) := by decide +kernel
theorem dX4_open_51 : decode cX4_open 51 = .ok (.aload_n 0, 1) := by decide +kernel
theorem dX4_open_52 : decode cX4_open 52 = .ok (.getfield 10, 3) := by decide +kernel
theorem dX4_open_55 : decode cX4_open 55 = .ok (.invokevirtual 60, 3) := by decide +kernel
theorem dX4_open_58 : decode cX4_open 58 = .ok (.ifCond .eq 13, 3) := by decide +kernel
theorem dX4_open_61 : decode cX4_open 61 = .ok (.new 64, 3) := by decide +kernel
theorem dX4_open_64 : decode cX4_open 64 = .ok (.dup, 1) := by decide +kernel
theorem dX4_open_65 : decode cX4_open 65 = .ok (.ldc 66, 2) := by decide +kernel
theorem dX4_open_67 : decode cX4_open 67 = .ok (.invokespecial 68, 3) := by decide +kernel
theorem dX4_open_70 : decode cX4_open 70 = .ok (.athrow, 1) := by decide +kernel
theorem dX4_open_71 : decode cX4_open 71 = .ok (.aload_n 0, 1) := by decide +kernel
theorem dX4_open_72 : decode cX4_open 72 = .ok (.getfield 69, 3) := by decide +kernel
theorem dX4_open_75 : decode cX4_open 75 = .ok (.iload_n 3, 1) := by decide +kernel
theorem dX4_open_76 : decode cX4_open 76 = .ok (.iadd, 1) := by decide +kernel
theorem dX4_open_77 : decode cX4_open 77 = .ok (.istore 5, 2) := by decide +kernel
theorem dX4_open_79 : decode cX4_open 79 = .ok (.iload 4, 2) := by decide +kernel
theorem dX4_open_81 : decode cX4_open 81 = .ok (.iconst (-1), 1) := by decide +kernel
theorem dX4_open_82 : decode cX4_open 82 = .ok (.if_icmp .eq 20, 3) := by decide +kernel
theorem dX4_open_85 : decode cX4_open 85 = .ok (.iload 5, 2) := by decide +kernel
theorem dX4_open_87 : decode cX4_open 87 = .ok (.aload_n 0, 1) := by decide +kernel
theorem dX4_open_88 : decode cX4_open 88 = .ok (.getfield 10, 3) := by decide +kernel
theorem dX4_open_91 : decode cX4_open 91 = .ok (.getfield 73, 3) := by decide +kernel
theorem dX4_open_94 : decode cX4_open 94 = .ok (.iload 4, 2) := by decide +kernel
theorem dX4_open_96 : decode cX4_open 96 = .ok (.iaload, 1) := by decide +kernel
theorem dX4_open_97 : decode cX4_open 97 = .ok (.invokestatic 77, 3) := by decide +kernel
theorem dX4_open_100 : decode cX4_open 100 = .ok (.istore 5, 2) := by decide +kernel
theorem dX4_open_102 : decode cX4_open 102 = .ok (.aload_n 0, 1) := by decide +kernel
theorem dX4_open_103 : decode cX4_open 103 = .ok (.getfield 10, 3) := by decide +kernel
theorem dX4_open_106 : decode cX4_open 106 = .ok (.iload_n 1, 1) := by decide +kernel
theorem dX4_open_107 : decode cX4_open 107 = .ok (.iload_n 2, 1) := by decide +kernel
theorem dX4_open_108 : decode cX4_open 108 = .ok (.iload 5, 2) := by decide +kernel
theorem dX4_open_110 : decode cX4_open 110 = .ok (.invokevirtual 83, 3) := by decide +kernel
theorem dX4_open_113 : decode cX4_open 113 = .ok (.istore 6, 2) := by decide +kernel
theorem dX4_open_115 : decode cX4_open 115 = .ok (.aload_n 0, 1) := by decide +kernel
theorem dX4_open_116 : decode cX4_open 116 = .ok (.getfield 31, 3) := by decide +kernel
theorem dX4_open_119 : decode cX4_open 119 = .ok (.iload 6, 2) := by decide +kernel
theorem dX4_open_121 : decode cX4_open 121 = .ok (.iload 4, 2) := by decide +kernel
theorem dX4_open_123 : decode cX4_open 123 = .ok (.aload_n 0, 1) := by decide +kernel
theorem dX4_open_124 : decode cX4_open 124 = .ok (.getfield 69, 3) := by decide +kernel
theorem dX4_open_127 : decode cX4_open 127 = .ok (.invokevirtual 87, 3) := by decide +kernel
theorem dX4_open_130 : decode cX4_open 130 = .ok (.iload 6, 2) := by decide +kernel
theorem dX4_open_132 : decode cX4_open 132 = .ok (.ireturn, 1) := by decide +kernel
set_option maxRecDepth 20000 in
theorem ggX4_cancel_X4_needCall : GoodIn wsX4_cancel wsX4_needCall := goodIn_ca (goodIn_r _ [6, 7, 8, 9, 10, 11, 12, 13, 14, 55, 56, 57, 58, 59, 60, 61, 62, 63, 64] (by decide +kernel) (by decide +kernel)) (goodIn_sub (fun _ h => List.mem_cons_of_mem _ (List.mem_append_left _ (List.mem_append_right _ h))) (by decide +kernel))
set_option maxRecDepth 20000 in
theorem gX4_cancel_X4_needCall : GoodIn wsX4_cancel (wsV RX4 42 RX4 yX4_needCall wsX4_needCall) := goodIn_app (goodIn_of _ (by decide +kernel)) ggX4_cancel_X4_needCall
set_option maxRecDepth 20000 in
theorem ggX4_cancel_X4_needOpenCall : GoodIn wsX4_cancel wsX4_needOpenCall := goodIn_ca (goodIn_r _ [18, 19, 20, 1, 55, 56, 57, 58, 59, 60, 65, 66, 67, 68, 69, 70, 71, 72, 73, 74] (by decide +kernel) (by decide +kernel)) (goodIn_sub (fun _ h => List.mem_cons_of_mem _ (List.mem_append_right _ h)) (by decide +kernel))
set_option maxRecDepth 20000 in
theorem gX4_cancel_X4_needOpenCall : GoodIn wsX4_cancel (wsV RX4 57 RX4 yX4_needOpenCall wsX4_needOpenCall) := goodIn_app (goodIn_of _ (by decide +kernel)) ggX4_cancel_X4_needOpenCall
set_option maxRecDepth 20000 in
theorem ggX4_cancel_X1_endAndTell : GoodIn wsX4_cancel wsX1_endAndTell := goodIn_r _ [24, 25, 26, 27, 28, 29, 30, 31, 32, 33, 34, 35, 36, 37, 38, 39, 40, 41, 42, 43, 44, 45, 46, 47, 22, 48, 49, 50, 51, 52, 53, 54, 10, 11, 12, 13, 14, 65, 66, 67, 68, 69, 70, 71, 72, 73, 74, 75, 76, 77, 78, 79, 80, 61, 62, 63, 64] (by decide +kernel) (by decide +kernel)
set_option maxRecDepth 20000 in
theorem gX4_cancel_X1_endAndTell_n91 : GoodIn wsX4_cancel (wsX1_endAndTell) := ggX4_cancel_X1_endAndTell
theorem dX4_cancel_0 : decode cX4_cancel 0 = .ok (.aload_n 0, 1) := by decide +kernel
theorem dX4_cancel_1 : decode cX4_cancel 1 = .ok (.iload_n 1, 1) := by decide +kernel
theorem dX4_cancel_2 : decode cX4_cancel 2 = .ok (.invokevirtual 42, 3) := by decide +kernel
theorem dX4_cancel_5 : decode cX4_cancel 5 = .ok (.aload_n 0, 1) := by decide +kernel
theorem dX4_cancel_6 : decode cX4_cancel 6 = .ok (.iload_n 1, 1) := by decide +kernel
theorem dX4_cancel_7 : decode cX4_cancel 7 = .ok (.invokevirtual 57, 3) := by decide +kernel
theorem dX4_cancel_10 : decode cX4_cancel 10 = .ok (.aload_n 0, 1) := by decide +kernel
theorem dX4_cancel_11 : decode cX4_cancel 11 = .ok (.getfield 31, 3) := by decide +kernel
theorem dX4_cancel_14 : decode cX4_cancel 14 = .ok (.iload_n 1, 1) := by decide +kernel
theorem dX4_cancel_15 : decode cX4_cancel 15 = .ok (.iconst 1, 1) := by decide +kernel
theorem dX4_cancel_16 : decode cX4_cancel 16 = .ok (.invokevirtual 91, 3) := by decide +kernel
theorem dX4_cancel_19 : decode cX4_cancel 19 = .ok (.ireturn, 1) := by decide +kernel
set_option maxRecDepth 20000 in
theorem ggX4_grant_X4_needCall : GoodIn wsX4_grant wsX4_needCall := goodIn_ca (goodIn_r _ [11, 12, 13, 5, 14, 15, 16, 17, 18, 42, 43, 44, 45, 46, 47, 48, 49, 50, 51] (by decide +kernel) (by decide +kernel)) (goodIn_sub (fun _ h => List.mem_cons_of_mem _ (List.mem_append_right _ h)) (by decide +kernel))
set_option maxRecDepth 20000 in
theorem gX4_grant_X4_needCall : GoodIn wsX4_grant (wsV RX4 42 RX4 yX4_needCall wsX4_needCall) := goodIn_app (goodIn_of _ (by decide +kernel)) ggX4_grant_X4_needCall
set_option maxRecDepth 20000 in
theorem ggX4_grant_X4_needOpenCall : GoodIn wsX4_grant wsX4_needOpenCall := goodIn_ca (goodIn_r _ [22, 3, 4, 23, 42, 43, 44, 45, 46, 47, 52, 53, 54, 55, 56, 57, 58, 59, 60, 61] (by decide +kernel) (by decide +kernel)) (goodIn_sub (fun _ h => List.mem_cons_of_mem _ (List.mem_append_left _ (List.mem_append_right _ h))) (by decide +kernel))
set_option maxRecDepth 20000 in
theorem gX4_grant_X4_needOpenCall : GoodIn wsX4_grant (wsV RX4 57 RX4 yX4_needOpenCall wsX4_needOpenCall) := goodIn_app (goodIn_of _ (by decide +kernel)) ggX4_grant_X4_needOpenCall
set_option maxRecDepth 20000 in
theorem ggX4_grant_X2_send : GoodIn wsX4_grant wsX2_send := goodIn_r _ [27, 28, 29, 30, 31, 32, 33, 34, 35, 25, 36, 37, 38, 39, 40, 41, 62, 63, 64, 65, 66, 67] (by decide +kernel) (by decide +kernel)
set_option maxRecDepth 20000 in
theorem gX4_grant_X2_send_n101 : GoodIn wsX4_grant (wsX2_send) := ggX4_grant_X2_send
theorem dX4_grant_0 : decode cX4_grant 0 = .ok (.aload_n 0, 1) := by decide +kernel
theorem dX4_grant_1 : decode cX4_grant 1 = .ok (.iload_n 1, 1) := by decide +kernel
theorem dX4_grant_2 : decode cX4_grant 2 = .ok (.invokevirtual 42, 3) := by decide +kernel
theorem dX4_grant_5 : decode cX4_grant 5 = .ok (.iload_n 2, 1) := by decide +kernel
theorem dX4_grant_6 : decode cX4_grant 6 = .ok (.iconst 1, 1) := by decide +kernel
theorem dX4_grant_7 : decode cX4_grant 7 = .ok (.if_icmp .lt 9, 3) := by decide +kernel
theorem dX4_grant_10 : decode cX4_grant 10 = .ok (.iload_n 2, 1) := by decide +kernel
theorem dX4_grant_11 : decode cX4_grant 11 = .ok (.bipush 10, 2) := by decide +kernel
theorem dX4_grant_13 : decode cX4_grant 13 = .ok (.if_icmp .le 13, 3) := by decide +kernel
theorem dX4_grant_16 : decode cX4_grant 16 = .ok (.new 50, 3) := by decide +kernel
theorem dX4_grant_19 : decode cX4_grant 19 = .ok (.dup, 1) := by decide +kernel
theorem dX4_grant_20 : decode cX4_grant 20 = .ok (.ldc 94, 2) := by decide +kernel
theorem dX4_grant_22 : decode cX4_grant 22 = .ok (.invokespecial 54, 3) := by decide +kernel
theorem dX4_grant_25 : decode cX4_grant 25 = .ok (.athrow, 1) := by decide +kernel
theorem dX4_grant_26 : decode cX4_grant 26 = .ok (.aload_n 0, 1) := by decide +kernel
theorem dX4_grant_27 : decode cX4_grant 27 = .ok (.getfield 10, 3) := by decide +kernel
theorem dX4_grant_30 : decode cX4_grant 30 = .ok (.getfield 96, 3) := by decide +kernel
theorem dX4_grant_33 : decode cX4_grant 33 = .ok (.iload_n 1, 1) := by decide +kernel
theorem dX4_grant_34 : decode cX4_grant 34 = .ok (.iaload, 1) := by decide +kernel
theorem dX4_grant_35 : decode cX4_grant 35 = .ok (.iconst 3, 1) := by decide +kernel
theorem dX4_grant_36 : decode cX4_grant 36 = .ok (.if_icmp .eq 13, 3) := by decide +kernel
theorem dX4_grant_39 : decode cX4_grant 39 = .ok (.new 64, 3) := by decide +kernel
theorem dX4_grant_42 : decode cX4_grant 42 = .ok (.dup, 1) := by decide +kernel
theorem dX4_grant_43 : decode cX4_grant 43 = .ok (.ldc 99, 2) := by decide +kernel
theorem dX4_grant_45 : decode cX4_grant 45 = .ok (.invokespecial 68, 3) := by decide +kernel
theorem dX4_grant_48 : decode cX4_grant 48 = .ok (.athrow, 1) := by decide +kernel
theorem dX4_grant_49 : decode cX4_grant 49 = .ok (.aload_n 0, 1) := by decide +kernel
theorem dX4_grant_50 : decode cX4_grant 50 = .ok (.iload_n 1, 1) := by decide +kernel
theorem dX4_grant_51 : decode cX4_grant 51 = .ok (.invokevirtual 57, 3) := by decide +kernel
theorem dX4_grant_54 : decode cX4_grant 54 = .ok (.aload_n 0, 1) := by decide +kernel
theorem dX4_grant_55 : decode cX4_grant 55 = .ok (.getfield 19, 3) := by decide +kernel
theorem dX4_grant_58 : decode cX4_grant 58 = .ok (.iconst 2, 1) := by decide +kernel
theorem dX4_grant_59 : decode cX4_grant 59 = .ok (.iload_n 1, 1) := by decide +kernel
theorem dX4_grant_60 : decode cX4_grant 60 = .ok (.iconst 0, 1) := by decide +kernel
theorem dX4_grant_61 : decode cX4_grant 61 = .ok (.iload_n 2, 1) := by decide +kernel
theorem dX4_grant_62 : decode cX4_grant 62 = .ok (.invokevirtual 101, 3) := by decide +kernel
theorem dX4_grant_65 : decode cX4_grant 65 = .ok (.return_, 1) := by decide +kernel
theorem dX4_calls_0 : decode cX4_calls 0 = .ok (.aload_n 0, 1) := by decide +kernel
theorem dX4_calls_1 : decode cX4_calls 1 = .ok (.getfield 10, 3) := by decide +kernel
theorem dX4_calls_4 : decode cX4_calls 4 = .ok (.getfield 105, 3) := by decide +kernel
theorem dX4_calls_7 : decode cX4_calls 7 = .ok (.ireturn, 1) := by decide +kernel
set_option maxRecDepth 20000 in
theorem ggX4_outcome_X4_needCall : GoodIn wsX4_outcome wsX4_needCall := goodIn_ca (goodIn_r _ [6, 7, 8, 9, 10, 11, 12, 13, 14, 15, 16, 17, 18, 19, 20, 31, 32, 33, 34] (by decide +kernel) (by decide +kernel)) (goodIn_sub (fun _ h => List.mem_cons_of_mem _ (List.mem_append_right _ h)) (by decide +kernel))
set_option maxRecDepth 20000 in
theorem gX4_outcome_X4_needCall : GoodIn wsX4_outcome (wsV RX4 42 RX4 yX4_needCall wsX4_needCall) := goodIn_app (goodIn_of _ (by decide +kernel)) ggX4_outcome_X4_needCall
theorem dX4_outcome_0 : decode cX4_outcome 0 = .ok (.aload_n 0, 1) := by decide +kernel
theorem dX4_outcome_1 : decode cX4_outcome 1 = .ok (.iload_n 1, 1) := by decide +kernel
theorem dX4_outcome_2 : decode cX4_outcome 2 = .ok (.invokevirtual 42, 3) := by decide +kernel
theorem dX4_outcome_5 : decode cX4_outcome 5 = .ok (.aload_n 0, 1) := by decide +kernel
theorem dX4_outcome_6 : decode cX4_outcome 6 = .ok (.getfield 31, 3) := by decide +kernel
theorem dX4_outcome_9 : decode cX4_outcome 9 = .ok (.getfield 108, 3) := by decide +kernel
theorem dX4_outcome_12 : decode cX4_outcome 12 = .ok (.iload_n 1, 1) := by decide +kernel
theorem dX4_outcome_13 : decode cX4_outcome 13 = .ok (.iaload, 1) := by decide +kernel
theorem dX4_outcome_14 : decode cX4_outcome 14 = .ok (.ireturn, 1) := by decide +kernel
set_option maxRecDepth 20000 in
theorem ggX4_value_X4_needCall : GoodIn wsX4_value wsX4_needCall := goodIn_ca (goodIn_r _ [8, 9, 10, 11, 12, 13, 14, 15, 16, 17, 18, 19, 20, 21, 22, 33, 34, 35, 36] (by decide +kernel) (by decide +kernel)) (goodIn_sub (fun _ h => List.mem_cons_of_mem _ (List.mem_append_right _ h)) (by decide +kernel))
set_option maxRecDepth 20000 in
theorem gX4_value_X4_needCall : GoodIn wsX4_value (wsV RX4 42 RX4 yX4_needCall wsX4_needCall) := goodIn_app (goodIn_of _ (by decide +kernel)) ggX4_value_X4_needCall
theorem dX4_value_0 : decode cX4_value 0 = .ok (.aload_n 0, 1) := by decide +kernel
theorem dX4_value_1 : decode cX4_value 1 = .ok (.iload_n 1, 1) := by decide +kernel
theorem dX4_value_2 : decode cX4_value 2 = .ok (.invokevirtual 42, 3) := by decide +kernel
theorem dX4_value_5 : decode cX4_value 5 = .ok (.aload_n 0, 1) := by decide +kernel
theorem dX4_value_6 : decode cX4_value 6 = .ok (.getfield 31, 3) := by decide +kernel
theorem dX4_value_9 : decode cX4_value 9 = .ok (.getfield 108, 3) := by decide +kernel
theorem dX4_value_12 : decode cX4_value 12 = .ok (.iload_n 1, 1) := by decide +kernel
theorem dX4_value_13 : decode cX4_value 13 = .ok (.iaload, 1) := by decide +kernel
theorem dX4_value_14 : decode cX4_value 14 = .ok (.ifCond .eq 13, 3) := by decide +kernel
theorem dX4_value_17 : decode cX4_value 17 = .ok (.new 64, 3) := by decide +kernel
theorem dX4_value_20 : decode cX4_value 20 = .ok (.dup, 1) := by decide +kernel
theorem dX4_value_21 : decode cX4_value 21 = .ok (.ldc 111, 2) := by decide +kernel
theorem dX4_value_23 : decode cX4_value 23 = .ok (.invokespecial 68, 3) := by decide +kernel
theorem dX4_value_26 : decode cX4_value 26 = .ok (.athrow, 1) := by decide +kernel
theorem dX4_value_27 : decode cX4_value 27 = .ok (.aload_n 0, 1) := by decide +kernel
theorem dX4_value_28 : decode cX4_value 28 = .ok (.getfield 31, 3) := by decide +kernel
theorem dX4_value_31 : decode cX4_value 31 = .ok (.getfield 113, 3) := by decide +kernel
theorem dX4_value_34 : decode cX4_value 34 = .ok (.iload_n 1, 1) := by decide +kernel
theorem dX4_value_35 : decode cX4_value 35 = .ok (.iaload, 1) := by decide +kernel
theorem dX4_value_36 : decode cX4_value 36 = .ok (.ireturn, 1) := by decide +kernel
set_option maxRecDepth 20000 in
theorem ggX4_deadline_X4_needCall : GoodIn wsX4_deadline wsX4_needCall := goodIn_ca (goodIn_r _ [6, 7, 8, 1, 9, 10, 11, 12, 13, 14, 15, 16, 17, 18, 19, 20, 21, 22, 23] (by decide +kernel) (by decide +kernel)) (goodIn_sub (fun _ h => List.mem_cons_of_mem _ (List.mem_append_right _ h)) (by decide +kernel))
set_option maxRecDepth 20000 in
theorem gX4_deadline_X4_needCall : GoodIn wsX4_deadline (wsV RX4 42 RX4 yX4_needCall wsX4_needCall) := goodIn_app (goodIn_of _ (by decide +kernel)) ggX4_deadline_X4_needCall
theorem dX4_deadline_0 : decode cX4_deadline 0 = .ok (.aload_n 0, 1) := by decide +kernel
theorem dX4_deadline_1 : decode cX4_deadline 1 = .ok (.iload_n 1, 1) := by decide +kernel
theorem dX4_deadline_2 : decode cX4_deadline 2 = .ok (.invokevirtual 42, 3) := by decide +kernel
theorem dX4_deadline_5 : decode cX4_deadline 5 = .ok (.aload_n 0, 1) := by decide +kernel
theorem dX4_deadline_6 : decode cX4_deadline 6 = .ok (.getfield 10, 3) := by decide +kernel
theorem dX4_deadline_9 : decode cX4_deadline 9 = .ok (.getfield 73, 3) := by decide +kernel
theorem dX4_deadline_12 : decode cX4_deadline 12 = .ok (.iload_n 1, 1) := by decide +kernel
theorem dX4_deadline_13 : decode cX4_deadline 13 = .ok (.iaload, 1) := by decide +kernel
theorem dX4_deadline_14 : decode cX4_deadline 14 = .ok (.ireturn, 1) := by decide +kernel
set_option maxRecDepth 20000 in
theorem ggX4_attempts_X4_needCall : GoodIn wsX4_attempts wsX4_needCall := goodIn_ca (goodIn_r _ [6, 7, 8, 9, 10, 11, 12, 13, 14, 15, 16, 17, 18, 19, 20, 31, 32, 33, 34] (by decide +kernel) (by decide +kernel)) (goodIn_sub (fun _ h => List.mem_cons_of_mem _ (List.mem_append_right _ h)) (by decide +kernel))
set_option maxRecDepth 20000 in
theorem gX4_attempts_X4_needCall : GoodIn wsX4_attempts (wsV RX4 42 RX4 yX4_needCall wsX4_needCall) := goodIn_app (goodIn_of _ (by decide +kernel)) ggX4_attempts_X4_needCall
theorem dX4_attempts_0 : decode cX4_attempts 0 = .ok (.aload_n 0, 1) := by decide +kernel
theorem dX4_attempts_1 : decode cX4_attempts 1 = .ok (.iload_n 1, 1) := by decide +kernel
theorem dX4_attempts_2 : decode cX4_attempts 2 = .ok (.invokevirtual 42, 3) := by decide +kernel
theorem dX4_attempts_5 : decode cX4_attempts 5 = .ok (.aload_n 0, 1) := by decide +kernel
theorem dX4_attempts_6 : decode cX4_attempts 6 = .ok (.getfield 31, 3) := by decide +kernel
theorem dX4_attempts_9 : decode cX4_attempts 9 = .ok (.getfield 116, 3) := by decide +kernel
theorem dX4_attempts_12 : decode cX4_attempts 12 = .ok (.iload_n 1, 1) := by decide +kernel
theorem dX4_attempts_13 : decode cX4_attempts 13 = .ok (.iaload, 1) := by decide +kernel
theorem dX4_attempts_14 : decode cX4_attempts 14 = .ok (.ireturn, 1) := by decide +kernel
set_option maxRecDepth 20000 in
theorem ggX4_received_X4_needCall : GoodIn wsX4_received wsX4_needCall := goodIn_ca (goodIn_r _ [6, 7, 8, 9, 10, 11, 12, 13, 14, 15, 16, 17, 18, 19, 20, 31, 32, 33, 34] (by decide +kernel) (by decide +kernel)) (goodIn_sub (fun _ h => List.mem_cons_of_mem _ (List.mem_append_right _ h)) (by decide +kernel))
set_option maxRecDepth 20000 in
theorem gX4_received_X4_needCall : GoodIn wsX4_received (wsV RX4 42 RX4 yX4_needCall wsX4_needCall) := goodIn_app (goodIn_of _ (by decide +kernel)) ggX4_received_X4_needCall
theorem dX4_received_0 : decode cX4_received 0 = .ok (.aload_n 0, 1) := by decide +kernel
theorem dX4_received_1 : decode cX4_received 1 = .ok (.iload_n 1, 1) := by decide +kernel
theorem dX4_received_2 : decode cX4_received 2 = .ok (.invokevirtual 42, 3) := by decide +kernel
theorem dX4_received_5 : decode cX4_received 5 = .ok (.aload_n 0, 1) := by decide +kernel
theorem dX4_received_6 : decode cX4_received 6 = .ok (.getfield 31, 3) := by decide +kernel
theorem dX4_received_9 : decode cX4_received 9 = .ok (.getfield 119, 3) := by decide +kernel
theorem dX4_received_12 : decode cX4_received 12 = .ok (.iload_n 1, 1) := by decide +kernel
theorem dX4_received_13 : decode cX4_received 13 = .ok (.iaload, 1) := by decide +kernel
theorem dX4_received_14 : decode cX4_received 14 = .ok (.ireturn, 1) := by decide +kernel
set_option maxRecDepth 20000 in
theorem ggX4_sum_X4_needCall : GoodIn wsX4_sum wsX4_needCall := goodIn_ca (goodIn_r _ [6, 7, 8, 9, 10, 11, 12, 13, 14, 15, 16, 17, 18, 19, 20, 31, 32, 33, 34] (by decide +kernel) (by decide +kernel)) (goodIn_sub (fun _ h => List.mem_cons_of_mem _ (List.mem_append_right _ h)) (by decide +kernel))
set_option maxRecDepth 20000 in
theorem gX4_sum_X4_needCall : GoodIn wsX4_sum (wsV RX4 42 RX4 yX4_needCall wsX4_needCall) := goodIn_app (goodIn_of _ (by decide +kernel)) ggX4_sum_X4_needCall
theorem dX4_sum_0 : decode cX4_sum 0 = .ok (.aload_n 0, 1) := by decide +kernel
theorem dX4_sum_1 : decode cX4_sum 1 = .ok (.iload_n 1, 1) := by decide +kernel
theorem dX4_sum_2 : decode cX4_sum 2 = .ok (.invokevirtual 42, 3) := by decide +kernel
theorem dX4_sum_5 : decode cX4_sum 5 = .ok (.aload_n 0, 1) := by decide +kernel
theorem dX4_sum_6 : decode cX4_sum 6 = .ok (.getfield 31, 3) := by decide +kernel
theorem dX4_sum_9 : decode cX4_sum 9 = .ok (.getfield 122, 3) := by decide +kernel
theorem dX4_sum_12 : decode cX4_sum 12 = .ok (.iload_n 1, 1) := by decide +kernel
theorem dX4_sum_13 : decode cX4_sum 13 = .ok (.iaload, 1) := by decide +kernel
theorem dX4_sum_14 : decode cX4_sum 14 = .ok (.ireturn, 1) := by decide +kernel
theorem dX4_tokens_0 : decode cX4_tokens 0 = .ok (.aload_n 0, 1) := by decide +kernel
theorem dX4_tokens_1 : decode cX4_tokens 1 = .ok (.getfield 31, 3) := by decide +kernel
theorem dX4_tokens_4 : decode cX4_tokens 4 = .ok (.getfield 125, 3) := by decide +kernel
theorem dX4_tokens_7 : decode cX4_tokens 7 = .ok (.ireturn, 1) := by decide +kernel
set_option maxRecDepth 20000 in
theorem ggX4_work_X4_needCall : GoodIn wsX4_work wsX4_needCall := goodIn_ca (goodIn_r _ [8, 9, 10, 11, 12, 13, 14, 15, 16, 71, 72, 73, 74, 75, 76, 85, 86, 87, 88] (by decide +kernel) (by decide +kernel)) (goodIn_sub (fun _ h => List.mem_cons_of_mem _ (List.mem_append_right _ h)) (by decide +kernel))
set_option maxRecDepth 20000 in
theorem gX4_work_X4_needCall : GoodIn wsX4_work (wsV RX4 42 RX4 yX4_needCall wsX4_needCall) := goodIn_app (goodIn_of _ (by decide +kernel)) ggX4_work_X4_needCall
set_option maxRecDepth 20000 in
theorem ggX4_work_X3_isItemNext : GoodIn wsX4_work wsX3_isItemNext := goodIn_r _ [20, 21, 22, 77, 78, 79, 80, 81, 82, 83, 84, 85, 86, 87, 88] (by decide +kernel) (by decide +kernel)
set_option maxRecDepth 20000 in
theorem gX4_work_X3_isItemNext_n133 : GoodIn wsX4_work (wsX3_isItemNext) := ggX4_work_X3_isItemNext
set_option maxRecDepth 20000 in
theorem ggX4_work_X3_step : GoodIn wsX4_work wsX3_step := goodIn_r _ [25, 26, 17, 19, 18, 20, 21, 22, 27, 28, 29, 30, 31, 32, 33, 34, 35, 36, 37, 38, 39, 40, 41, 42, 43, 44, 45, 46, 47, 48, 49, 50, 51, 52, 53, 54, 55, 56, 57, 58, 59, 60, 61, 62, 63, 64, 65, 66, 67, 68, 69, 70, 77, 78, 79, 80, 81, 82, 83, 84, 85, 86, 87, 88, 89, 90, 91, 92, 93, 94] (by decide +kernel) (by decide +kernel)
set_option maxRecDepth 20000 in
theorem gX4_work_X3_step_n142 : GoodIn wsX4_work (wsX3_step) := ggX4_work_X3_step
theorem dX4_work_0 : decode cX4_work 0 = .ok (.aload_n 0, 1) := by decide +kernel
theorem dX4_work_1 : decode cX4_work 1 = .ok (.iload_n 1, 1) := by decide +kernel
theorem dX4_work_2 : decode cX4_work 2 = .ok (.invokevirtual 42, 3) := by decide +kernel
theorem dX4_work_5 : decode cX4_work 5 = .ok (.aload_n 0, 1) := by decide +kernel
theorem dX4_work_6 : decode cX4_work 6 = .ok (.getfield 38, 3) := by decide +kernel
theorem dX4_work_9 : decode cX4_work 9 = .ok (.getfield 128, 3) := by decide +kernel
theorem dX4_work_12 : decode cX4_work 12 = .ok (.iload_n 1, 1) := by decide +kernel
theorem dX4_work_13 : decode cX4_work 13 = .ok (.iaload, 1) := by decide +kernel
theorem dX4_work_14 : decode cX4_work 14 = .ok (.iconst 1, 1) := by decide +kernel
theorem dX4_work_15 : decode cX4_work 15 = .ok (.if_icmp .eq 13, 3) := by decide +kernel
theorem dX4_work_18 : decode cX4_work 18 = .ok (.new 64, 3) := by decide +kernel
theorem dX4_work_21 : decode cX4_work 21 = .ok (.dup, 1) := by decide +kernel
theorem dX4_work_22 : decode cX4_work 22 = .ok (.ldc 131, 2) := by decide +kernel
theorem dX4_work_24 : decode cX4_work 24 = .ok (.invokespecial 68, 3) := by decide +kernel
theorem dX4_work_27 : decode cX4_work 27 = .ok (.athrow, 1) := by decide +kernel
theorem dX4_work_28 : decode cX4_work 28 = .ok (.aload_n 0, 1) := by decide +kernel
theorem dX4_work_29 : decode cX4_work 29 = .ok (.getfield 38, 3) := by decide +kernel
theorem dX4_work_32 : decode cX4_work 32 = .ok (.iload_n 1, 1) := by decide +kernel
theorem dX4_work_33 : decode cX4_work 33 = .ok (.invokevirtual 133, 3) := by decide +kernel
theorem dX4_work_36 : decode cX4_work 36 = .ok (.ifCond .eq 26, 3) := by decide +kernel
theorem dX4_work_39 : decode cX4_work 39 = .ok (.aload_n 0, 1) := by decide +kernel
theorem dX4_work_40 : decode cX4_work 40 = .ok (.getfield 38, 3) := by decide +kernel
theorem dX4_work_43 : decode cX4_work 43 = .ok (.getfield 137, 3) := by decide +kernel
theorem dX4_work_46 : decode cX4_work 46 = .ok (.iload_n 1, 1) := by decide +kernel
theorem dX4_work_47 : decode cX4_work 47 = .ok (.iaload, 1) := by decide +kernel
theorem dX4_work_48 : decode cX4_work 48 = .ok (.iconst 1, 1) := by decide +kernel
theorem dX4_work_49 : decode cX4_work 49 = .ok (.if_icmp .ge 13, 3) := by decide +kernel
theorem dX4_work_52 : decode cX4_work 52 = .ok (.new 64, 3) := by decide +kernel
theorem dX4_work_55 : decode cX4_work 55 = .ok (.dup, 1) := by decide +kernel
theorem dX4_work_56 : decode cX4_work 56 = .ok (.ldc 140, 2) := by decide +kernel
theorem dX4_work_58 : decode cX4_work 58 = .ok (.invokespecial 68, 3) := by decide +kernel
theorem dX4_work_61 : decode cX4_work 61 = .ok (.athrow, 1) := by decide +kernel
theorem dX4_work_62 : decode cX4_work 62 = .ok (.aload_n 0, 1) := by decide +kernel
theorem dX4_work_63 : decode cX4_work 63 = .ok (.getfield 38, 3) := by decide +kernel
theorem dX4_work_66 : decode cX4_work 66 = .ok (.iload_n 1, 1) := by decide +kernel
theorem dX4_work_67 : decode cX4_work 67 = .ok (.invokevirtual 142, 3) := by decide +kernel
theorem dX4_work_70 : decode cX4_work 70 = .ok (.aload_n 0, 1) := by decide +kernel
theorem dX4_work_71 : decode cX4_work 71 = .ok (.getfield 38, 3) := by decide +kernel
theorem dX4_work_74 : decode cX4_work 74 = .ok (.getfield 128, 3) := by decide +kernel
theorem dX4_work_77 : decode cX4_work 77 = .ok (.iload_n 1, 1) := by decide +kernel
theorem dX4_work_78 : decode cX4_work 78 = .ok (.iaload, 1) := by decide +kernel
theorem dX4_work_79 : decode cX4_work 79 = .ok (.ireturn, 1) := by decide +kernel
set_option maxRecDepth 20000 in
theorem ggX4_task_X4_needCall : GoodIn wsX4_task wsX4_needCall := goodIn_ca (goodIn_r _ [6, 7, 8, 9, 10, 11, 12, 13, 14, 15, 16, 17, 18, 19, 20, 29, 30, 31, 32] (by decide +kernel) (by decide +kernel)) (goodIn_sub (fun _ h => List.mem_cons_of_mem _ (List.mem_append_right _ h)) (by decide +kernel))
set_option maxRecDepth 20000 in
theorem gX4_task_X4_needCall : GoodIn wsX4_task (wsV RX4 42 RX4 yX4_needCall wsX4_needCall) := goodIn_app (goodIn_of _ (by decide +kernel)) ggX4_task_X4_needCall
theorem dX4_task_0 : decode cX4_task 0 = .ok (.aload_n 0, 1) := by decide +kernel
theorem dX4_task_1 : decode cX4_task 1 = .ok (.iload_n 1, 1) := by decide +kernel
theorem dX4_task_2 : decode cX4_task 2 = .ok (.invokevirtual 42, 3) := by decide +kernel
theorem dX4_task_5 : decode cX4_task 5 = .ok (.aload_n 0, 1) := by decide +kernel
theorem dX4_task_6 : decode cX4_task 6 = .ok (.getfield 38, 3) := by decide +kernel
theorem dX4_task_9 : decode cX4_task 9 = .ok (.getfield 128, 3) := by decide +kernel
theorem dX4_task_12 : decode cX4_task 12 = .ok (.iload_n 1, 1) := by decide +kernel
theorem dX4_task_13 : decode cX4_task 13 = .ok (.iaload, 1) := by decide +kernel
theorem dX4_task_14 : decode cX4_task 14 = .ok (.ireturn, 1) := by decide +kernel
set_option maxRecDepth 20000 in
theorem ggX4_credits_X4_needCall : GoodIn wsX4_credits wsX4_needCall := goodIn_ca (goodIn_r _ [6, 7, 8, 9, 10, 11, 12, 13, 14, 15, 16, 17, 18, 19, 20, 29, 30, 31, 32] (by decide +kernel) (by decide +kernel)) (goodIn_sub (fun _ h => List.mem_cons_of_mem _ (List.mem_append_right _ h)) (by decide +kernel))
set_option maxRecDepth 20000 in
theorem gX4_credits_X4_needCall : GoodIn wsX4_credits (wsV RX4 42 RX4 yX4_needCall wsX4_needCall) := goodIn_app (goodIn_of _ (by decide +kernel)) ggX4_credits_X4_needCall
theorem dX4_credits_0 : decode cX4_credits 0 = .ok (.aload_n 0, 1) := by decide +kernel
theorem dX4_credits_1 : decode cX4_credits 1 = .ok (.iload_n 1, 1) := by decide +kernel
theorem dX4_credits_2 : decode cX4_credits 2 = .ok (.invokevirtual 42, 3) := by decide +kernel
theorem dX4_credits_5 : decode cX4_credits 5 = .ok (.aload_n 0, 1) := by decide +kernel
theorem dX4_credits_6 : decode cX4_credits 6 = .ok (.getfield 38, 3) := by decide +kernel
theorem dX4_credits_9 : decode cX4_credits 9 = .ok (.getfield 137, 3) := by decide +kernel
theorem dX4_credits_12 : decode cX4_credits 12 = .ok (.iload_n 1, 1) := by decide +kernel
theorem dX4_credits_13 : decode cX4_credits 13 = .ok (.iaload, 1) := by decide +kernel
theorem dX4_credits_14 : decode cX4_credits 14 = .ok (.ireturn, 1) := by decide +kernel
theorem dX4_total_0 : decode cX4_total 0 = .ok (.aload_n 0, 1) := by decide +kernel
theorem dX4_total_1 : decode cX4_total 1 = .ok (.getfield 38, 3) := by decide +kernel
theorem dX4_total_4 : decode cX4_total 4 = .ok (.getfield 145, 3) := by decide +kernel
theorem dX4_total_7 : decode cX4_total 7 = .ok (.ireturn, 1) := by decide +kernel
set_option maxRecDepth 20000 in
theorem ggX4_local_X4_needMethodAndArgument : GoodIn wsX4_local wsX4_needMethodAndArgument := goodIn_ca (goodIn_r _ [7, 8, 9] (by decide +kernel) (by decide +kernel)) (goodIn_sub (fun _ h => List.mem_cons_of_mem _ (List.mem_append_right _ h)) (by decide +kernel))
set_option maxRecDepth 20000 in
theorem gX4_local_X4_needMethodAndArgument : GoodIn wsX4_local (va_wsS RX4 46 yX4_needMethodAndArgument wsX4_needMethodAndArgument) := goodIn_app (goodIn_of _ (by decide +kernel)) ggX4_local_X4_needMethodAndArgument
set_option maxRecDepth 20000 in
theorem ggX4_local_X3_answerOf : GoodIn wsX4_local wsX3_answerOf := goodIn_r _ [13, 14, 15, 16, 17, 18, 25, 26, 27, 28, 29, 30, 31, 32] (by decide +kernel) (by decide +kernel)
set_option maxRecDepth 20000 in
theorem gX4_local_X3_answerOf_n150 : GoodIn wsX4_local (wsX3_answerOf) := ggX4_local_X3_answerOf
theorem dX4_local_0 : decode cX4_local 0 = .ok (.iload_n 1, 1) := by decide +kernel
theorem dX4_local_1 : decode cX4_local 1 = .ok (.iload_n 2, 1) := by decide +kernel
theorem dX4_local_2 : decode cX4_local 2 = .ok (.invokestatic 46, 3) := by decide +kernel
theorem dX4_local_5 : decode cX4_local 5 = .ok (.iload_n 1, 1) := by decide +kernel
theorem dX4_local_6 : decode cX4_local 6 = .ok (.iconst 2, 1) := by decide +kernel
theorem dX4_local_7 : decode cX4_local 7 = .ok (.if_icmp .ne 13, 3) := by decide +kernel
theorem dX4_local_10 : decode cX4_local 10 = .ok (.new 64, 3) := by decide +kernel
theorem dX4_local_13 : decode cX4_local 13 = .ok (.dup, 1) := by decide +kernel
theorem dX4_local_14 : decode cX4_local 14 = .ok (.ldc 148, 2) := by decide +kernel
theorem dX4_local_16 : decode cX4_local 16 = .ok (.invokespecial 68, 3) := by decide +kernel
theorem dX4_local_19 : decode cX4_local 19 = .ok (.athrow, 1) := by decide +kernel
theorem dX4_local_20 : decode cX4_local 20 = .ok (.aload_n 0, 1) := by decide +kernel
theorem dX4_local_21 : decode cX4_local 21 = .ok (.getfield 38, 3) := by decide +kernel
theorem dX4_local_24 : decode cX4_local 24 = .ok (.iload_n 1, 1) := by decide +kernel
theorem dX4_local_25 : decode cX4_local 25 = .ok (.iload_n 2, 1) := by decide +kernel
theorem dX4_local_26 : decode cX4_local 26 = .ok (.invokevirtual 150, 3) := by decide +kernel
theorem dX4_local_29 : decode cX4_local 29 = .ok (.ireturn, 1) := by decide +kernel
set_option maxRecDepth 20000 in
theorem ggX4_deliver_X4_needDirection : GoodIn wsX4_deliver wsX4_needDirection := goodIn_ca (goodIn_r _ [8, 9, 10] (by decide +kernel) (by decide +kernel)) (goodIn_sub (fun _ h => List.mem_cons_of_mem _ (List.mem_append_left _ (List.mem_append_right _ h))) (by decide +kernel))
set_option maxRecDepth 20000 in
theorem gX4_deliver_X4_needDirection : GoodIn wsX4_deliver (va_wsS RX4 153 yX4_needDirection wsX4_needDirection) := goodIn_app (goodIn_of _ (by decide +kernel)) ggX4_deliver_X4_needDirection
set_option maxRecDepth 20000 in
theorem ggX4_deliver_X4_laneOf : GoodIn wsX4_deliver wsX4_laneOf := goodIn_r _ [14, 15, 16, 123, 124, 125, 126, 127, 128] (by decide +kernel) (by decide +kernel)
set_option maxRecDepth 20000 in
theorem gX4_deliver_X4_laneOf : GoodIn wsX4_deliver (wsV RX4 156 RX4 yX4_laneOf wsX4_laneOf) := goodIn_app (goodIn_of _ (by decide +kernel)) ggX4_deliver_X4_laneOf
set_option maxRecDepth 20000 in
theorem ggX4_deliver_X4_needAnyFrame : GoodIn wsX4_deliver wsX4_needAnyFrame := goodIn_ca (goodIn_r _ [19, 20, 21, 22, 23, 24, 25, 26, 117, 118, 119, 120, 121, 122] (by decide +kernel) (by decide +kernel)) (goodIn_sub (fun _ h => List.mem_cons_of_mem _ (List.mem_append_right _ h)) (by decide +kernel))
set_option maxRecDepth 20000 in
theorem gX4_deliver_X4_needAnyFrame : GoodIn wsX4_deliver (va_wsS RX4 160 yX4_needAnyFrame wsX4_needAnyFrame) := goodIn_app (goodIn_of _ (by decide +kernel)) ggX4_deliver_X4_needAnyFrame
set_option maxRecDepth 20000 in
theorem ggX4_deliver_X2_slotOf : GoodIn wsX4_deliver wsX2_slotOf := goodIn_r _ [29, 30, 31, 32, 33, 34, 117, 118, 119, 120, 121, 122] (by decide +kernel) (by decide +kernel)
set_option maxRecDepth 20000 in
theorem gX4_deliver_X2_slotOf_n164 : GoodIn wsX4_deliver (wsX2_slotOf) := ggX4_deliver_X2_slotOf
set_option maxRecDepth 20000 in
theorem ggX4_deliver_X2_removeFirst : GoodIn wsX4_deliver wsX2_removeFirst := goodIn_r _ [37, 30, 26, 38, 27, 28, 23, 29, 31, 32, 33, 34, 117, 118, 119, 120, 121, 122] (by decide +kernel) (by decide +kernel)
set_option maxRecDepth 20000 in
theorem gX4_deliver_X2_removeFirst_n178 : GoodIn wsX4_deliver (wsX2_removeFirst) := ggX4_deliver_X2_removeFirst
set_option maxRecDepth 20000 in
theorem ggX4_deliver_X0_has : GoodIn wsX4_deliver wsX0_has := goodIn_r _ [42, 43, 129, 130, 131, 132] (by decide +kernel) (by decide +kernel)
set_option maxRecDepth 20000 in
theorem gX4_deliver_X0_has_n181 : GoodIn wsX4_deliver (wsX0_has) := ggX4_deliver_X0_has
set_option maxRecDepth 20000 in
theorem ggX4_deliver_X3_take : GoodIn wsX4_deliver wsX3_take := goodIn_r _ [47, 48, 49, 50, 51, 52, 45, 53, 54, 55, 56, 57, 58, 59, 60, 61, 62, 23, 63, 64, 26, 65, 66, 67, 68, 38, 27, 28, 29, 30, 31, 32, 33, 34, 69, 40, 70, 71, 72, 73, 74, 75, 76, 133, 134, 135, 136, 137, 138, 139, 140, 117, 118, 119, 120, 121, 122, 129, 130, 131, 132] (by decide +kernel) (by decide +kernel)
set_option maxRecDepth 20000 in
theorem gX4_deliver_X3_take_n184 : GoodIn wsX4_deliver (wsX3_take) := ggX4_deliver_X3_take
set_option maxRecDepth 20000 in
theorem ggX4_deliver_X1_take : GoodIn wsX4_deliver wsX1_take := goodIn_r _ [80, 81, 82, 83, 84, 78, 85, 86, 87, 88, 89, 90, 91, 92, 93, 94, 95, 96, 97, 98, 99, 100, 101, 102, 103, 104, 105, 106, 107, 39, 40, 41, 42, 43, 62, 23, 63, 64, 26, 65, 66, 67, 68, 38, 27, 28, 29, 30, 31, 32, 33, 34, 108, 109, 110, 111, 112, 113, 114, 115, 116, 141, 142, 143, 144, 145, 146, 147, 148, 149, 150, 129, 130, 131, 132, 117, 118, 119, 120, 121, 122] (by decide +kernel) (by decide +kernel)
set_option maxRecDepth 20000 in
theorem gX4_deliver_X1_take_n187 : GoodIn wsX4_deliver (wsX1_take) := ggX4_deliver_X1_take
theorem dX4_deliver_0 : decode cX4_deliver 0 = .ok (.iload_n 1, 1) := by decide +kernel
theorem dX4_deliver_1 : decode cX4_deliver 1 = .ok (.invokestatic 153, 3) := by decide +kernel
theorem dX4_deliver_4 : decode cX4_deliver 4 = .ok (.aload_n 0, 1) := by decide +kernel
theorem dX4_deliver_5 : decode cX4_deliver 5 = .ok (.iload_n 1, 1) := by decide +kernel
theorem dX4_deliver_6 : decode cX4_deliver 6 = .ok (.invokevirtual 156, 3) := by decide +kernel
theorem dX4_deliver_9 : decode cX4_deliver 9 = .ok (.astore_n 2, 1) := by decide +kernel
theorem dX4_deliver_10 : decode cX4_deliver 10 = .ok (.aload_n 2, 1) := by decide +kernel
theorem dX4_deliver_11 : decode cX4_deliver 11 = .ok (.invokestatic 160, 3) := by decide +kernel
theorem dX4_deliver_14 : decode cX4_deliver 14 = .ok (.aload_n 2, 1) := by decide +kernel
theorem dX4_deliver_15 : decode cX4_deliver 15 = .ok (.iconst 0, 1) := by decide +kernel
theorem dX4_deliver_16 : decode cX4_deliver 16 = .ok (.invokevirtual 164, 3) := by decide +kernel
theorem dX4_deliver_19 : decode cX4_deliver 19 = .ok (.istore_n 3, 1) := by decide +kernel
theorem dX4_deliver_20 : decode cX4_deliver 20 = .ok (.aload_n 2, 1) := by decide +kernel
theorem dX4_deliver_21 : decode cX4_deliver 21 = .ok (.getfield 168, 3) := by decide +kernel
theorem dX4_deliver_24 : decode cX4_deliver 24 = .ok (.iload_n 3, 1) := by decide +kernel
theorem dX4_deliver_25 : decode cX4_deliver 25 = .ok (.iaload, 1) := by decide +kernel
theorem dX4_deliver_26 : decode cX4_deliver 26 = .ok (.istore 4, 2) := by decide +kernel
theorem dX4_deliver_28 : decode cX4_deliver 28 = .ok (.aload_n 2, 1) := by decide +kernel
theorem dX4_deliver_29 : decode cX4_deliver 29 = .ok (.getfield 171, 3) := by decide +kernel
theorem dX4_deliver_32 : decode cX4_deliver 32 = .ok (.iload_n 3, 1) := by decide +kernel
theorem dX4_deliver_33 : decode cX4_deliver 33 = .ok (.iaload, 1) := by decide +kernel
theorem dX4_deliver_34 : decode cX4_deliver 34 = .ok (.istore 5, 2) := by decide +kernel
theorem dX4_deliver_36 : decode cX4_deliver 36 = .ok (.aload_n 2, 1) := by decide +kernel
theorem dX4_deliver_37 : decode cX4_deliver 37 = .ok (.getfield 174, 3) := by decide +kernel
theorem dX4_deliver_40 : decode cX4_deliver 40 = .ok (.iload_n 3, 1) := by decide +kernel
theorem dX4_deliver_41 : decode cX4_deliver 41 = .ok (.iaload, 1) := by decide +kernel
theorem dX4_deliver_42 : decode cX4_deliver 42 = .ok (.istore 6, 2) := by decide +kernel
theorem dX4_deliver_44 : decode cX4_deliver 44 = .ok (.aload_n 2, 1) := by decide +kernel
theorem dX4_deliver_45 : decode cX4_deliver 45 = .ok (.getfield 177, 3) := by decide +kernel
theorem dX4_deliver_48 : decode cX4_deliver 48 = .ok (.iload_n 3, 1) := by decide +kernel
theorem dX4_deliver_49 : decode cX4_deliver 49 = .ok (.iaload, 1) := by decide +kernel
theorem dX4_deliver_50 : decode cX4_deliver 50 = .ok (.istore 7, 2) := by decide +kernel
theorem dX4_deliver_52 : decode cX4_deliver 52 = .ok (.aload_n 2, 1) := by decide +kernel
theorem dX4_deliver_53 : decode cX4_deliver 53 = .ok (.invokevirtual 178, 3) := by decide +kernel
theorem dX4_deliver_56 : decode cX4_deliver 56 = .ok (.aload_n 0, 1) := by decide +kernel
theorem dX4_deliver_57 : decode cX4_deliver 57 = .ok (.getfield 10, 3) := by decide +kernel
theorem dX4_deliver_60 : decode cX4_deliver 60 = .ok (.iload 5, 2) := by decide +kernel
theorem dX4_deliver_62 : decode cX4_deliver 62 = .ok (.invokevirtual 181, 3) := by decide +kernel
theorem dX4_deliver_65 : decode cX4_deliver 65 = .ok (.ifCond .ne 6, 3) := by decide +kernel
theorem dX4_deliver_68 : decode cX4_deliver 68 = .ok (.iload 5, 2) := by decide +kernel
theorem dX4_deliver_70 : decode cX4_deliver 70 = .ok (.ireturn, 1) := by decide +kernel
theorem dX4_deliver_71 : decode cX4_deliver 71 = .ok (.iload_n 1, 1) := by decide +kernel
theorem dX4_deliver_72 : decode cX4_deliver 72 = .ok (.ifCond .ne 23, 3) := by decide +kernel
theorem dX4_deliver_75 : decode cX4_deliver 75 = .ok (.aload_n 0, 1) := by decide +kernel
theorem dX4_deliver_76 : decode cX4_deliver 76 = .ok (.getfield 38, 3) := by decide +kernel
theorem dX4_deliver_79 : decode cX4_deliver 79 = .ok (.iload 4, 2) := by decide +kernel
theorem dX4_deliver_81 : decode cX4_deliver 81 = .ok (.iload 5, 2) := by decide +kernel
theorem dX4_deliver_83 : decode cX4_deliver 83 = .ok (.iload 7, 2) := by decide +kernel
theorem dX4_deliver_85 : decode cX4_deliver 85 = .ok (.aload_n 0, 1) := by decide +kernel
theorem dX4_deliver_86 : decode cX4_deliver 86 = .ok (.getfield 69, 3) := by decide +kernel
theorem dX4_deliver_89 : decode cX4_deliver 89 = .ok (.invokevirtual 184, 3) := by decide +kernel
theorem dX4_deliver_92 : decode cX4_deliver 92 = .ok (.goto 18, 3) := by decide +kernel
theorem dX4_deliver_95 : decode cX4_deliver 95 = .ok (.aload_n 0, 1) := by decide +kernel
theorem dX4_deliver_96 : decode cX4_deliver 96 = .ok (.getfield 31, 3) := by decide +kernel
theorem dX4_deliver_99 : decode cX4_deliver 99 = .ok (.iload 4, 2) := by decide +kernel
theorem dX4_deliver_101 : decode cX4_deliver 101 = .ok (.iload 5, 2) := by decide +kernel
theorem dX4_deliver_103 : decode cX4_deliver 103 = .ok (.iload 6, 2) := by decide +kernel
theorem dX4_deliver_105 : decode cX4_deliver 105 = .ok (.iload 7, 2) := by decide +kernel
theorem dX4_deliver_107 : decode cX4_deliver 107 = .ok (.invokevirtual 187, 3) := by decide +kernel
theorem dX4_deliver_110 : decode cX4_deliver 110 = .ok (.iload 5, 2) := by decide +kernel
theorem dX4_deliver_112 : decode cX4_deliver 112 = .ok (.ireturn, 1) := by decide +kernel
set_option maxRecDepth 20000 in
theorem ggX4_lose_X4_needDirection : GoodIn wsX4_lose wsX4_needDirection := goodIn_ca (goodIn_r _ [4, 5, 6] (by decide +kernel) (by decide +kernel)) (goodIn_sub (fun _ h => List.mem_cons_of_mem _ (List.mem_append_left _ (List.mem_append_right _ h))) (by decide +kernel))
set_option maxRecDepth 20000 in
theorem gX4_lose_X4_needDirection : GoodIn wsX4_lose (va_wsS RX4 153 yX4_needDirection wsX4_needDirection) := goodIn_app (goodIn_of _ (by decide +kernel)) ggX4_lose_X4_needDirection
set_option maxRecDepth 20000 in
theorem ggX4_lose_X4_laneOf : GoodIn wsX4_lose wsX4_laneOf := goodIn_r _ [10, 11, 12, 41, 42, 43, 44, 45, 46] (by decide +kernel) (by decide +kernel)
set_option maxRecDepth 20000 in
theorem gX4_lose_X4_laneOf : GoodIn wsX4_lose (wsV RX4 156 RX4 yX4_laneOf wsX4_laneOf) := goodIn_app (goodIn_of _ (by decide +kernel)) ggX4_lose_X4_laneOf
set_option maxRecDepth 20000 in
theorem ggX4_lose_X4_needAnyFrame : GoodIn wsX4_lose wsX4_needAnyFrame := goodIn_ca (goodIn_r _ [15, 16, 17, 18, 19, 20, 21, 22, 35, 36, 37, 38, 39, 40] (by decide +kernel) (by decide +kernel)) (goodIn_sub (fun _ h => List.mem_cons_of_mem _ (List.mem_append_right _ h)) (by decide +kernel))
set_option maxRecDepth 20000 in
theorem gX4_lose_X4_needAnyFrame : GoodIn wsX4_lose (va_wsS RX4 160 yX4_needAnyFrame wsX4_needAnyFrame) := goodIn_app (goodIn_of _ (by decide +kernel)) ggX4_lose_X4_needAnyFrame
set_option maxRecDepth 20000 in
theorem ggX4_lose_X2_slotOf : GoodIn wsX4_lose wsX2_slotOf := goodIn_r _ [25, 26, 27, 28, 29, 30, 35, 36, 37, 38, 39, 40] (by decide +kernel) (by decide +kernel)
set_option maxRecDepth 20000 in
theorem gX4_lose_X2_slotOf_n164 : GoodIn wsX4_lose (wsX2_slotOf) := ggX4_lose_X2_slotOf
set_option maxRecDepth 20000 in
theorem ggX4_lose_X2_removeFirst : GoodIn wsX4_lose wsX2_removeFirst := goodIn_r _ [33, 26, 22, 34, 23, 24, 19, 25, 27, 28, 29, 30, 35, 36, 37, 38, 39, 40] (by decide +kernel) (by decide +kernel)
set_option maxRecDepth 20000 in
theorem gX4_lose_X2_removeFirst_n178 : GoodIn wsX4_lose (wsX2_removeFirst) := ggX4_lose_X2_removeFirst
theorem dX4_lose_0 : decode cX4_lose 0 = .ok (.iload_n 1, 1) := by decide +kernel
theorem dX4_lose_1 : decode cX4_lose 1 = .ok (.invokestatic 153, 3) := by decide +kernel
theorem dX4_lose_4 : decode cX4_lose 4 = .ok (.aload_n 0, 1) := by decide +kernel
theorem dX4_lose_5 : decode cX4_lose 5 = .ok (.iload_n 1, 1) := by decide +kernel
theorem dX4_lose_6 : decode cX4_lose 6 = .ok (.invokevirtual 156, 3) := by decide +kernel
theorem dX4_lose_9 : decode cX4_lose 9 = .ok (.astore_n 2, 1) := by decide +kernel
theorem dX4_lose_10 : decode cX4_lose 10 = .ok (.aload_n 2, 1) := by decide +kernel
theorem dX4_lose_11 : decode cX4_lose 11 = .ok (.invokestatic 160, 3) := by decide +kernel
theorem dX4_lose_14 : decode cX4_lose 14 = .ok (.aload_n 2, 1) := by decide +kernel
theorem dX4_lose_15 : decode cX4_lose 15 = .ok (.getfield 171, 3) := by decide +kernel
theorem dX4_lose_18 : decode cX4_lose 18 = .ok (.aload_n 2, 1) := by decide +kernel
theorem dX4_lose_19 : decode cX4_lose 19 = .ok (.iconst 0, 1) := by decide +kernel
theorem dX4_lose_20 : decode cX4_lose 20 = .ok (.invokevirtual 164, 3) := by decide +kernel
theorem dX4_lose_23 : decode cX4_lose 23 = .ok (.iaload, 1) := by decide +kernel
theorem dX4_lose_24 : decode cX4_lose 24 = .ok (.istore_n 3, 1) := by decide +kernel
theorem dX4_lose_25 : decode cX4_lose 25 = .ok (.aload_n 2, 1) := by decide +kernel
theorem dX4_lose_26 : decode cX4_lose 26 = .ok (.invokevirtual 178, 3) := by decide +kernel
theorem dX4_lose_29 : decode cX4_lose 29 = .ok (.iload_n 3, 1) := by decide +kernel
theorem dX4_lose_30 : decode cX4_lose 30 = .ok (.ireturn, 1) := by decide +kernel
set_option maxRecDepth 20000 in
theorem ggX4_frames_X4_needDirection : GoodIn wsX4_frames wsX4_needDirection := goodIn_ca (goodIn_r _ [4, 5, 6] (by decide +kernel) (by decide +kernel)) (goodIn_sub (fun _ h => List.mem_cons_of_mem _ (List.mem_append_right _ h)) (by decide +kernel))
set_option maxRecDepth 20000 in
theorem gX4_frames_X4_needDirection : GoodIn wsX4_frames (va_wsS RX4 153 yX4_needDirection wsX4_needDirection) := goodIn_app (goodIn_of _ (by decide +kernel)) ggX4_frames_X4_needDirection
set_option maxRecDepth 20000 in
theorem ggX4_frames_X4_laneOf : GoodIn wsX4_frames wsX4_laneOf := goodIn_r _ [10, 11, 12, 19, 20, 21, 22, 23, 24] (by decide +kernel) (by decide +kernel)
set_option maxRecDepth 20000 in
theorem gX4_frames_X4_laneOf : GoodIn wsX4_frames (wsV RX4 156 RX4 yX4_laneOf wsX4_laneOf) := goodIn_app (goodIn_of _ (by decide +kernel)) ggX4_frames_X4_laneOf
theorem dX4_frames_0 : decode cX4_frames 0 = .ok (.iload_n 1, 1) := by decide +kernel
theorem dX4_frames_1 : decode cX4_frames 1 = .ok (.invokestatic 153, 3) := by decide +kernel
theorem dX4_frames_4 : decode cX4_frames 4 = .ok (.aload_n 0, 1) := by decide +kernel
theorem dX4_frames_5 : decode cX4_frames 5 = .ok (.iload_n 1, 1) := by decide +kernel
theorem dX4_frames_6 : decode cX4_frames 6 = .ok (.invokevirtual 156, 3) := by decide +kernel
theorem dX4_frames_9 : decode cX4_frames 9 = .ok (.getfield 188, 3) := by decide +kernel
theorem dX4_frames_12 : decode cX4_frames 12 = .ok (.ireturn, 1) := by decide +kernel
set_option maxRecDepth 20000 in
theorem ggX4_pass_X1_endDueCalls : GoodIn wsX4_pass wsX1_endDueCalls := goodIn_r _ [9, 10, 11, 12, 13, 14, 15, 16, 17, 18, 19, 7, 20, 21, 22, 23, 24, 25, 26, 27, 28, 29, 30, 31, 32, 33, 34, 35, 36, 37, 38, 39, 40, 41, 42, 43, 44, 45, 46, 47, 48, 49, 50, 51, 52, 80, 81, 82, 83, 84, 85, 86, 87, 88, 89, 90, 91, 92, 93, 94, 95, 96, 97, 98, 99] (by decide +kernel) (by decide +kernel)
set_option maxRecDepth 20000 in
theorem gX4_pass_X1_endDueCalls_n195 : GoodIn wsX4_pass (wsX1_endDueCalls) := ggX4_pass_X1_endDueCalls
set_option maxRecDepth 20000 in
theorem ggX4_pass_X3_closeDueTasks : GoodIn wsX4_pass wsX3_closeDueTasks := goodIn_r _ [56, 57, 58, 12, 13, 14, 15, 16, 100, 101, 102, 103, 104, 105, 106, 107, 90, 91, 92, 93] (by decide +kernel) (by decide +kernel)
set_option maxRecDepth 20000 in
theorem gX4_pass_X3_closeDueTasks_n198 : GoodIn wsX4_pass (wsX3_closeDueTasks) := ggX4_pass_X3_closeDueTasks
set_option maxRecDepth 20000 in
theorem ggX4_pass_X1_repeatRequests : GoodIn wsX4_pass wsX1_repeatRequests := goodIn_r _ [61, 10, 62, 63, 64, 65, 7, 66, 11, 67, 68, 69, 70, 71, 72, 73, 25, 35, 36, 37, 38, 39, 40, 41, 42, 43, 44, 45, 46, 47, 48, 49, 50, 51, 52, 80, 81, 82, 83, 84, 85, 86, 87, 88, 89, 90, 91, 92, 93, 94, 95, 96, 97, 98, 99] (by decide +kernel) (by decide +kernel)
set_option maxRecDepth 20000 in
theorem gX4_pass_X1_repeatRequests_n201 : GoodIn wsX4_pass (wsX1_repeatRequests) := ggX4_pass_X1_repeatRequests
theorem dX4_pass_0 : decode cX4_pass 0 = .ok (.iload_n 1, 1) := by decide +kernel
theorem dX4_pass_1 : decode cX4_pass 1 = .ok (.iconst 1, 1) := by decide +kernel
theorem dX4_pass_2 : decode cX4_pass 2 = .ok (.if_icmp .lt 10, 3) := by decide +kernel
theorem dX4_pass_5 : decode cX4_pass 5 = .ok (.iload_n 1, 1) := by decide +kernel
theorem dX4_pass_6 : decode cX4_pass 6 = .ok (.sipush 200, 3) := by decide +kernel
theorem dX4_pass_9 : decode cX4_pass 9 = .ok (.if_icmp .le 13, 3) := by decide +kernel
theorem dX4_pass_12 : decode cX4_pass 12 = .ok (.new 50, 3) := by decide +kernel
theorem dX4_pass_15 : decode cX4_pass 15 = .ok (.dup, 1) := by decide +kernel
theorem dX4_pass_16 : decode cX4_pass 16 = .ok (.ldc 193, 2) := by decide +kernel
theorem dX4_pass_18 : decode cX4_pass 18 = .ok (.invokespecial 54, 3) := by decide +kernel
theorem dX4_pass_21 : decode cX4_pass 21 = .ok (.athrow, 1) := by decide +kernel
theorem dX4_pass_22 : decode cX4_pass 22 = .ok (.iconst 0, 1) := by decide +kernel
theorem dX4_pass_23 : decode cX4_pass 23 = .ok (.istore_n 2, 1) := by decide +kernel
theorem dX4_pass_24 : decode cX4_pass 24 = .ok (.iconst 0, 1) := by decide +kernel
theorem dX4_pass_25 : decode cX4_pass 25 = .ok (.istore_n 3, 1) := by decide +kernel
theorem dX4_pass_26 : decode cX4_pass 26 = .ok (.iload_n 3, 1) := by decide +kernel
theorem dX4_pass_27 : decode cX4_pass 27 = .ok (.iload_n 1, 1) := by decide +kernel
theorem dX4_pass_28 : decode cX4_pass 28 = .ok (.if_icmp .ge 55, 3) := by decide +kernel
theorem dX4_pass_31 : decode cX4_pass 31 = .ok (.aload_n 0, 1) := by decide +kernel
theorem dX4_pass_32 : decode cX4_pass 32 = .ok (.dup, 1) := by decide +kernel
theorem dX4_pass_33 : decode cX4_pass 33 = .ok (.getfield 69, 3) := by decide +kernel
theorem dX4_pass_36 : decode cX4_pass 36 = .ok (.iconst 1, 1) := by decide +kernel
theorem dX4_pass_37 : decode cX4_pass 37 = .ok (.iadd, 1) := by decide +kernel
theorem dX4_pass_38 : decode cX4_pass 38 = .ok (.putfield 69, 3) := by decide +kernel
theorem dX4_pass_41 : decode cX4_pass 41 = .ok (.iload_n 2, 1) := by decide +kernel
theorem dX4_pass_42 : decode cX4_pass 42 = .ok (.aload_n 0, 1) := by decide +kernel
theorem dX4_pass_43 : decode cX4_pass 43 = .ok (.getfield 31, 3) := by decide +kernel
theorem dX4_pass_46 : decode cX4_pass 46 = .ok (.aload_n 0, 1) := by decide +kernel
theorem dX4_pass_47 : decode cX4_pass 47 = .ok (.getfield 69, 3) := by decide +kernel
theorem dX4_pass_50 : decode cX4_pass 50 = .ok (.invokevirtual 195, 3) := by decide +kernel
theorem dX4_pass_53 : decode cX4_pass 53 = .ok (.iadd, 1) := by decide +kernel
theorem dX4_pass_54 : decode cX4_pass 54 = .ok (.istore_n 2, 1) := by decide +kernel
theorem dX4_pass_55 : decode cX4_pass 55 = .ok (.aload_n 0, 1) := by decide +kernel
theorem dX4_pass_56 : decode cX4_pass 56 = .ok (.getfield 38, 3) := by decide +kernel
theorem dX4_pass_59 : decode cX4_pass 59 = .ok (.aload_n 0, 1) := by decide +kernel
theorem dX4_pass_60 : decode cX4_pass 60 = .ok (.getfield 69, 3) := by decide +kernel
theorem dX4_pass_63 : decode cX4_pass 63 = .ok (.invokevirtual 198, 3) := by decide +kernel
theorem dX4_pass_66 : decode cX4_pass 66 = .ok (.aload_n 0, 1) := by decide +kernel
theorem dX4_pass_67 : decode cX4_pass 67 = .ok (.getfield 31, 3) := by decide +kernel
theorem dX4_pass_70 : decode cX4_pass 70 = .ok (.aload_n 0, 1) := by decide +kernel
theorem dX4_pass_71 : decode cX4_pass 71 = .ok (.getfield 69, 3) := by decide +kernel
theorem dX4_pass_74 : decode cX4_pass 74 = .ok (.invokevirtual 201, 3) := by decide +kernel
theorem dX4_pass_77 : decode cX4_pass 77 = .ok (.iinc 3 1, 3) := by decide +kernel
theorem dX4_pass_80 : decode cX4_pass 80 = .ok (.goto (-54), 3) := by decide +kernel
theorem dX4_pass_83 : decode cX4_pass 83 = .ok (.iload_n 2, 1) := by decide +kernel
theorem dX4_pass_84 : decode cX4_pass 84 = .ok (.ireturn, 1) := by decide +kernel
theorem dX4_now_0 : decode cX4_now 0 = .ok (.aload_n 0, 1) := by decide +kernel
theorem dX4_now_1 : decode cX4_now 1 = .ok (.getfield 69, 3) := by decide +kernel
theorem dX4_now_4 : decode cX4_now 4 = .ok (.ireturn, 1) := by decide +kernel
theorem dX4_laneOf_0 : decode cX4_laneOf 0 = .ok (.iload_n 1, 1) := by decide +kernel
theorem dX4_laneOf_1 : decode cX4_laneOf 1 = .ok (.ifCond .ne 10, 3) := by decide +kernel
theorem dX4_laneOf_4 : decode cX4_laneOf 4 = .ok (.aload_n 0, 1) := by decide +kernel
theorem dX4_laneOf_5 : decode cX4_laneOf 5 = .ok (.getfield 19, 3) := by decide +kernel
theorem dX4_laneOf_8 : decode cX4_laneOf 8 = .ok (.goto 7, 3) := by decide +kernel
theorem dX4_laneOf_11 : decode cX4_laneOf 11 = .ok (.aload_n 0, 1) := by decide +kernel
theorem dX4_laneOf_12 : decode cX4_laneOf 12 = .ok (.getfield 23, 3) := by decide +kernel
theorem dX4_laneOf_15 : decode cX4_laneOf 15 = .ok (.areturn, 1) := by decide +kernel
set_option maxRecDepth 20000 in
theorem ggX4_needCall_X0_has : GoodIn wsX4_needCall wsX0_has := goodIn_r _ [7, 8, 15, 16, 17, 18] (by decide +kernel) (by decide +kernel)
set_option maxRecDepth 20000 in
theorem gX4_needCall_X0_has_n181 : GoodIn wsX4_needCall (wsX0_has) := ggX4_needCall_X0_has
theorem dX4_needCall_0 : decode cX4_needCall 0 = .ok (.aload_n 0, 1) := by decide +kernel
theorem dX4_needCall_1 : decode cX4_needCall 1 = .ok (.getfield 10, 3) := by decide +kernel
theorem dX4_needCall_4 : decode cX4_needCall 4 = .ok (.iload_n 1, 1) := by decide +kernel
theorem dX4_needCall_5 : decode cX4_needCall 5 = .ok (.invokevirtual 181, 3) := by decide +kernel
theorem dX4_needCall_8 : decode cX4_needCall 8 = .ok (.ifCond .ne 13, 3) := by decide +kernel
theorem dX4_needCall_11 : decode cX4_needCall 11 = .ok (.new 204, 3) := by decide +kernel
theorem dX4_needCall_14 : decode cX4_needCall 14 = .ok (.dup, 1) := by decide +kernel
theorem dX4_needCall_15 : decode cX4_needCall 15 = .ok (.ldc 206, 2) := by decide +kernel
theorem dX4_needCall_17 : decode cX4_needCall 17 = .ok (.invokespecial 208, 3) := by decide +kernel
theorem dX4_needCall_20 : decode cX4_needCall 20 = .ok (.athrow, 1) := by decide +kernel
theorem dX4_needCall_21 : decode cX4_needCall 21 = .ok (.return_, 1) := by decide +kernel
theorem dX4_needOpenCall_0 : decode cX4_needOpenCall 0 = .ok (.aload_n 0, 1) := by decide +kernel
theorem dX4_needOpenCall_1 : decode cX4_needOpenCall 1 = .ok (.getfield 31, 3) := by decide +kernel
theorem dX4_needOpenCall_4 : decode cX4_needOpenCall 4 = .ok (.getfield 108, 3) := by decide +kernel
theorem dX4_needOpenCall_7 : decode cX4_needOpenCall 7 = .ok (.iload_n 1, 1) := by decide +kernel
theorem dX4_needOpenCall_8 : decode cX4_needOpenCall 8 = .ok (.iaload, 1) := by decide +kernel
theorem dX4_needOpenCall_9 : decode cX4_needOpenCall 9 = .ok (.iconst (-1), 1) := by decide +kernel
theorem dX4_needOpenCall_10 : decode cX4_needOpenCall 10 = .ok (.if_icmp .eq 13, 3) := by decide +kernel
theorem dX4_needOpenCall_13 : decode cX4_needOpenCall 13 = .ok (.new 64, 3) := by decide +kernel
theorem dX4_needOpenCall_16 : decode cX4_needOpenCall 16 = .ok (.dup, 1) := by decide +kernel
theorem dX4_needOpenCall_17 : decode cX4_needOpenCall 17 = .ok (.ldc 209, 2) := by decide +kernel
theorem dX4_needOpenCall_19 : decode cX4_needOpenCall 19 = .ok (.invokespecial 68, 3) := by decide +kernel
theorem dX4_needOpenCall_22 : decode cX4_needOpenCall 22 = .ok (.athrow, 1) := by decide +kernel
theorem dX4_needOpenCall_23 : decode cX4_needOpenCall 23 = .ok (.return_, 1) := by decide +kernel
theorem dX4_needMethodAndArgument_0 : decode cX4_needMethodAndArgument 0 = .ok (.iload_n 0, 1) := by decide +kernel
theorem dX4_needMethodAndArgument_1 : decode cX4_needMethodAndArgument 1 = .ok (.ifCond .lt 8, 3) := by decide +kernel
theorem dX4_needMethodAndArgument_4 : decode cX4_needMethodAndArgument 4 = .ok (.iload_n 0, 1) := by decide +kernel
theorem dX4_needMethodAndArgument_5 : decode cX4_needMethodAndArgument 5 = .ok (.iconst 3, 1) := by decide +kernel
theorem dX4_needMethodAndArgument_6 : decode cX4_needMethodAndArgument 6 = .ok (.if_icmp .le 13, 3) := by decide +kernel
theorem dX4_needMethodAndArgument_9 : decode cX4_needMethodAndArgument 9 = .ok (.new 50, 3) := by decide +kernel
theorem dX4_needMethodAndArgument_12 : decode cX4_needMethodAndArgument 12 = .ok (.dup, 1) := by decide +kernel
theorem dX4_needMethodAndArgument_13 : decode cX4_needMethodAndArgument 13 = .ok (.ldc 211, 2) := by decide +kernel
theorem dX4_needMethodAndArgument_15 : decode cX4_needMethodAndArgument 15 = .ok (.invokespecial 54, 3) := by decide +kernel
theorem dX4_needMethodAndArgument_18 : decode cX4_needMethodAndArgument 18 = .ok (.athrow, 1) := by decide +kernel
theorem dX4_needMethodAndArgument_19 : decode cX4_needMethodAndArgument 19 = .ok (.iload_n 1, 1) := by decide +kernel
theorem dX4_needMethodAndArgument_20 : decode cX4_needMethodAndArgument 20 = .ok (.sipush (-1000), 3) := by decide +kernel
theorem dX4_needMethodAndArgument_23 : decode cX4_needMethodAndArgument 23 = .ok (.if_icmp .lt 10, 3) := by decide +kernel
theorem dX4_needMethodAndArgument_26 : decode cX4_needMethodAndArgument 26 = .ok (.iload_n 1, 1) := by decide +kernel
theorem dX4_needMethodAndArgument_27 : decode cX4_needMethodAndArgument 27 = .ok (.sipush 1000, 3) := by decide +kernel
theorem dX4_needMethodAndArgument_30 : decode cX4_needMethodAndArgument 30 = .ok (.if_icmp .le 13, 3) := by decide +kernel
theorem dX4_needMethodAndArgument_33 : decode cX4_needMethodAndArgument 33 = .ok (.new 50, 3) := by decide +kernel
theorem dX4_needMethodAndArgument_36 : decode cX4_needMethodAndArgument 36 = .ok (.dup, 1) := by decide +kernel
theorem dX4_needMethodAndArgument_37 : decode cX4_needMethodAndArgument 37 = .ok (.ldc 213, 2) := by decide +kernel
theorem dX4_needMethodAndArgument_39 : decode cX4_needMethodAndArgument 39 = .ok (.invokespecial 54, 3) := by decide +kernel
theorem dX4_needMethodAndArgument_42 : decode cX4_needMethodAndArgument 42 = .ok (.athrow, 1) := by decide +kernel
theorem dX4_needMethodAndArgument_43 : decode cX4_needMethodAndArgument 43 = .ok (.return_, 1) := by decide +kernel
theorem dX4_needDirection_0 : decode cX4_needDirection 0 = .ok (.iload_n 0, 1) := by decide +kernel
theorem dX4_needDirection_1 : decode cX4_needDirection 1 = .ok (.ifCond .eq 18, 3) := by decide +kernel
theorem dX4_needDirection_4 : decode cX4_needDirection 4 = .ok (.iload_n 0, 1) := by decide +kernel
theorem dX4_needDirection_5 : decode cX4_needDirection 5 = .ok (.iconst 1, 1) := by decide +kernel
theorem dX4_needDirection_6 : decode cX4_needDirection 6 = .ok (.if_icmp .eq 13, 3) := by decide +kernel
theorem dX4_needDirection_9 : decode cX4_needDirection 9 = .ok (.new 50, 3) := by decide +kernel
theorem dX4_needDirection_12 : decode cX4_needDirection 12 = .ok (.dup, 1) := by decide +kernel
theorem dX4_needDirection_13 : decode cX4_needDirection 13 = .ok (.ldc 215, 2) := by decide +kernel
theorem dX4_needDirection_15 : decode cX4_needDirection 15 = .ok (.invokespecial 54, 3) := by decide +kernel
theorem dX4_needDirection_18 : decode cX4_needDirection 18 = .ok (.athrow, 1) := by decide +kernel
theorem dX4_needDirection_19 : decode cX4_needDirection 19 = .ok (.return_, 1) := by decide +kernel
set_option maxRecDepth 20000 in
theorem ggX4_needAnyFrame_X2_has : GoodIn wsX4_needAnyFrame wsX2_has := goodIn_r _ [6, 7, 8, 9, 10, 11, 12, 13] (by decide +kernel) (by decide +kernel)
set_option maxRecDepth 20000 in
theorem gX4_needAnyFrame_X2_has_n217 : GoodIn wsX4_needAnyFrame (wsX2_has) := ggX4_needAnyFrame_X2_has
theorem dX4_needAnyFrame_0 : decode cX4_needAnyFrame 0 = .ok (.aload_n 0, 1) := by decide +kernel
theorem dX4_needAnyFrame_1 : decode cX4_needAnyFrame 1 = .ok (.iconst 0, 1) := by decide +kernel
theorem dX4_needAnyFrame_2 : decode cX4_needAnyFrame 2 = .ok (.invokevirtual 217, 3) := by decide +kernel
theorem dX4_needAnyFrame_5 : decode cX4_needAnyFrame 5 = .ok (.ifCond .ne 13, 3) := by decide +kernel
theorem dX4_needAnyFrame_8 : decode cX4_needAnyFrame 8 = .ok (.new 64, 3) := by decide +kernel
theorem dX4_needAnyFrame_11 : decode cX4_needAnyFrame 11 = .ok (.dup, 1) := by decide +kernel
theorem dX4_needAnyFrame_12 : decode cX4_needAnyFrame 12 = .ok (.ldc 218, 2) := by decide +kernel
theorem dX4_needAnyFrame_14 : decode cX4_needAnyFrame 14 = .ok (.invokespecial 68, 3) := by decide +kernel
theorem dX4_needAnyFrame_17 : decode cX4_needAnyFrame 17 = .ok (.athrow, 1) := by decide +kernel
theorem dX4_needAnyFrame_18 : decode cX4_needAnyFrame 18 = .ok (.return_, 1) := by decide +kernel
