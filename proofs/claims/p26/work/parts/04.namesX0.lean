theorem dX0_init_0 : decode cX0_init 0 = .ok (.aload_n 0, 1) := by decide +kernel
theorem dX0_init_1 : decode cX0_init 1 = .ok (.invokespecial 3, 3) := by decide +kernel
theorem dX0_init_4 : decode cX0_init 4 = .ok (.aload_n 0, 1) := by decide +kernel
theorem dX0_init_5 : decode cX0_init 5 = .ok (.bipush 40, 2) := by decide +kernel
theorem dX0_init_7 : decode cX0_init 7 = .ok (.newarray .int, 2) := by decide +kernel
theorem dX0_init_9 : decode cX0_init 9 = .ok (.putfield 9, 3) := by decide +kernel
theorem dX0_init_12 : decode cX0_init 12 = .ok (.aload_n 0, 1) := by decide +kernel
theorem dX0_init_13 : decode cX0_init 13 = .ok (.bipush 40, 2) := by decide +kernel
theorem dX0_init_15 : decode cX0_init 15 = .ok (.newarray .int, 2) := by decide +kernel
theorem dX0_init_17 : decode cX0_init 17 = .ok (.putfield 15, 3) := by decide +kernel
theorem dX0_init_20 : decode cX0_init 20 = .ok (.aload_n 0, 1) := by decide +kernel
theorem dX0_init_21 : decode cX0_init 21 = .ok (.bipush 40, 2) := by decide +kernel
theorem dX0_init_23 : decode cX0_init 23 = .ok (.newarray .int, 2) := by decide +kernel
theorem dX0_init_25 : decode cX0_init 25 = .ok (.putfield 18, 3) := by decide +kernel
theorem dX0_init_28 : decode cX0_init 28 = .ok (.return_, 1) := by decide +kernel
theorem dX0_has_0 : decode cX0_has 0 = .ok (.iload_n 1, 1) := by decide +kernel
theorem dX0_has_1 : decode cX0_has 1 = .ok (.ifCond .lt 15, 3) := by decide +kernel
theorem dX0_has_4 : decode cX0_has 4 = .ok (.iload_n 1, 1) := by decide +kernel
theorem dX0_has_5 : decode cX0_has 5 = .ok (.aload_n 0, 1) := by decide +kernel
theorem dX0_has_6 : decode cX0_has 6 = .ok (.getfield 21, 3) := by decide +kernel
theorem dX0_has_9 : decode cX0_has 9 = .ok (.if_icmp .ge 7, 3) := by decide +kernel
theorem dX0_has_12 : decode cX0_has 12 = .ok (.iconst 1, 1) := by decide +kernel
theorem dX0_has_13 : decode cX0_has 13 = .ok (.goto 4, 3) := by decide +kernel
theorem dX0_has_16 : decode cX0_has 16 = .ok (.iconst 0, 1) := by decide +kernel
theorem dX0_has_17 : decode cX0_has 17 = .ok (.ireturn, 1) := by decide +kernel
theorem dX0_isFull_0 : decode cX0_isFull 0 = .ok (.aload_n 0, 1) := by decide +kernel
theorem dX0_isFull_1 : decode cX0_isFull 1 = .ok (.getfield 21, 3) := by decide +kernel
theorem dX0_isFull_4 : decode cX0_isFull 4 = .ok (.bipush 40, 2) := by decide +kernel
theorem dX0_isFull_6 : decode cX0_isFull 6 = .ok (.if_icmp .lt 7, 3) := by decide +kernel
theorem dX0_isFull_9 : decode cX0_isFull 9 = .ok (.iconst 1, 1) := by decide +kernel
theorem dX0_isFull_10 : decode cX0_isFull 10 = .ok (.goto 4, 3) := by decide +kernel
theorem dX0_isFull_13 : decode cX0_isFull 13 = .ok (.iconst 0, 1) := by decide +kernel
theorem dX0_isFull_14 : decode cX0_isFull 14 = .ok (.ireturn, 1) := by decide +kernel
theorem dX0_enter_0 : decode cX0_enter 0 = .ok (.aload_n 0, 1) := by decide +kernel
theorem dX0_enter_1 : decode cX0_enter 1 = .ok (.getfield 21, 3) := by decide +kernel
theorem dX0_enter_4 : decode cX0_enter 4 = .ok (.istore 4, 2) := by decide +kernel
theorem dX0_enter_6 : decode cX0_enter 6 = .ok (.aload_n 0, 1) := by decide +kernel
theorem dX0_enter_7 : decode cX0_enter 7 = .ok (.getfield 9, 3) := by decide +kernel
theorem dX0_enter_10 : decode cX0_enter 10 = .ok (.iload 4, 2) := by decide +kernel
theorem dX0_enter_12 : decode cX0_enter 12 = .ok (.iload_n 1, 1) := by decide +kernel
theorem dX0_enter_13 : decode cX0_enter 13 = .ok (.iastore, 1) := by decide +kernel
theorem dX0_enter_14 : decode cX0_enter 14 = .ok (.aload_n 0, 1) := by decide +kernel
theorem dX0_enter_15 : decode cX0_enter 15 = .ok (.getfield 15, 3) := by decide +kernel
theorem dX0_enter_18 : decode cX0_enter 18 = .ok (.iload 4, 2) := by decide +kernel
theorem dX0_enter_20 : decode cX0_enter 20 = .ok (.iload_n 2, 1) := by decide +kernel
theorem dX0_enter_21 : decode cX0_enter 21 = .ok (.iastore, 1) := by decide +kernel
theorem dX0_enter_22 : decode cX0_enter 22 = .ok (.aload_n 0, 1) := by decide +kernel
theorem dX0_enter_23 : decode cX0_enter 23 = .ok (.getfield 18, 3) := by decide +kernel
theorem dX0_enter_26 : decode cX0_enter 26 = .ok (.iload 4, 2) := by decide +kernel
theorem dX0_enter_28 : decode cX0_enter 28 = .ok (.iload_n 3, 1) := by decide +kernel
theorem dX0_enter_29 : decode cX0_enter 29 = .ok (.iastore, 1) := by decide +kernel
theorem dX0_enter_30 : decode cX0_enter 30 = .ok (.aload_n 0, 1) := by decide +kernel
theorem dX0_enter_31 : decode cX0_enter 31 = .ok (.dup, 1) := by decide +kernel
theorem dX0_enter_32 : decode cX0_enter 32 = .ok (.getfield 21, 3) := by decide +kernel
theorem dX0_enter_35 : decode cX0_enter 35 = .ok (.iconst 1, 1) := by decide +kernel
theorem dX0_enter_36 : decode cX0_enter 36 = .ok (.iadd, 1) := by decide +kernel
theorem dX0_enter_37 : decode cX0_enter 37 = .ok (.putfield 21, 3) := by decide +kernel
theorem dX0_enter_40 : decode cX0_enter 40 = .ok (.iload 4, 2) := by decide +kernel
theorem dX0_enter_42 : decode cX0_enter 42 = .ok (.ireturn, 1) := by decide +kernel
theorem dX0_isDue_0 : decode cX0_isDue 0 = .ok (.aload_n 0, 1) := by decide +kernel
theorem dX0_isDue_1 : decode cX0_isDue 1 = .ok (.getfield 18, 3) := by decide +kernel
theorem dX0_isDue_4 : decode cX0_isDue 4 = .ok (.iload_n 1, 1) := by decide +kernel
theorem dX0_isDue_5 : decode cX0_isDue 5 = .ok (.iaload, 1) := by decide +kernel
theorem dX0_isDue_6 : decode cX0_isDue 6 = .ok (.iload_n 2, 1) := by decide +kernel
theorem dX0_isDue_7 : decode cX0_isDue 7 = .ok (.if_icmp .gt 7, 3) := by decide +kernel
theorem dX0_isDue_10 : decode cX0_isDue 10 = .ok (.iconst 1, 1) := by decide +kernel
theorem dX0_isDue_11 : decode cX0_isDue 11 = .ok (.goto 4, 3) := by decide +kernel
theorem dX0_isDue_14 : decode cX0_isDue 14 = .ok (.iconst 0, 1) := by decide +kernel
theorem dX0_isDue_15 : decode cX0_isDue 15 = .ok (.ireturn, 1) := by decide +kernel
theorem dX1_init_0 : decode cX1_init 0 = .ok (.aload_n 0, 1) := by decide +kernel
theorem dX1_init_1 : decode cX1_init 1 = .ok (.invokespecial 3, 3) := by decide +kernel
theorem dX1_init_4 : decode cX1_init 4 = .ok (.aload_n 0, 1) := by decide +kernel
theorem dX1_init_5 : decode cX1_init 5 = .ok (.bipush 40, 2) := by decide +kernel
theorem dX1_init_7 : decode cX1_init 7 = .ok (.newarray .int, 2) := by decide +kernel
theorem dX1_init_9 : decode cX1_init 9 = .ok (.putfield 9, 3) := by decide +kernel
theorem dX1_init_12 : decode cX1_init 12 = .ok (.aload_n 0, 1) := by decide +kernel
theorem dX1_init_13 : decode cX1_init 13 = .ok (.bipush 40, 2) := by decide +kernel
theorem dX1_init_15 : decode cX1_init 15 = .ok (.newarray .int, 2) := by decide +kernel
theorem dX1_init_17 : decode cX1_init 17 = .ok (.putfield 15, 3) := by decide +kernel
theorem dX1_init_20 : decode cX1_init 20 = .ok (.aload_n 0, 1) := by decide +kernel
theorem dX1_init_21 : decode cX1_init 21 = .ok (.bipush 40, 2) := by decide +kernel
theorem dX1_init_23 : decode cX1_init 23 = .ok (.newarray .int, 2) := by decide +kernel
theorem dX1_init_25 : decode cX1_init 25 = .ok (.putfield 18, 3) := by decide +kernel
theorem dX1_init_28 : decode cX1_init 28 = .ok (.aload_n 0, 1) := by decide +kernel
theorem dX1_init_29 : decode cX1_init 29 = .ok (.bipush 40, 2) := by decide +kernel
theorem dX1_init_31 : decode cX1_init 31 = .ok (.newarray .int, 2) := by decide +kernel
theorem dX1_init_33 : decode cX1_init 33 = .ok (.putfield 21, 3) := by decide +kernel
theorem dX1_init_36 : decode cX1_init 36 = .ok (.aload_n 0, 1) := by decide +kernel
theorem dX1_init_37 : decode cX1_init 37 = .ok (.bipush 40, 2) := by decide +kernel
theorem dX1_init_39 : decode cX1_init 39 = .ok (.newarray .int, 2) := by decide +kernel
theorem dX1_init_41 : decode cX1_init 41 = .ok (.putfield 24, 3) := by decide +kernel
theorem dX1_init_44 : decode cX1_init 44 = .ok (.aload_n 0, 1) := by decide +kernel
theorem dX1_init_45 : decode cX1_init 45 = .ok (.bipush 40, 2) := by decide +kernel
theorem dX1_init_47 : decode cX1_init 47 = .ok (.newarray .int, 2) := by decide +kernel
theorem dX1_init_49 : decode cX1_init 49 = .ok (.putfield 27, 3) := by decide +kernel
theorem dX1_init_52 : decode cX1_init 52 = .ok (.aload_n 0, 1) := by decide +kernel
theorem dX1_init_53 : decode cX1_init 53 = .ok (.bipush 40, 2) := by decide +kernel
theorem dX1_init_55 : decode cX1_init 55 = .ok (.newarray .int, 2) := by decide +kernel
theorem dX1_init_57 : decode cX1_init 57 = .ok (.putfield 30, 3) := by decide +kernel
theorem dX1_init_60 : decode cX1_init 60 = .ok (.aload_n 0, 1) := by decide +kernel
theorem dX1_init_61 : decode cX1_init 61 = .ok (.bipush 100, 2) := by decide +kernel
theorem dX1_init_63 : decode cX1_init 63 = .ok (.putfield 33, 3) := by decide +kernel
theorem dX1_init_66 : decode cX1_init 66 = .ok (.aload_n 0, 1) := by decide +kernel
theorem dX1_init_67 : decode cX1_init 67 = .ok (.aload_n 1, 1) := by decide +kernel
theorem dX1_init_68 : decode cX1_init 68 = .ok (.putfield 37, 3) := by decide +kernel
theorem dX1_init_71 : decode cX1_init 71 = .ok (.aload_n 0, 1) := by decide +kernel
theorem dX1_init_72 : decode cX1_init 72 = .ok (.aload_n 2, 1) := by decide +kernel
theorem dX1_init_73 : decode cX1_init 73 = .ok (.putfield 41, 3) := by decide +kernel
theorem dX1_init_76 : decode cX1_init 76 = .ok (.return_, 1) := by decide +kernel
set_option maxRecDepth 20000 in
theorem ggX1_begin_X1_sendRequest : GoodIn wsX1_begin wsX1_sendRequest := goodIn_r _ [7, 8, 9, 10, 11, 12, 13, 14, 15, 16, 17, 18, 19, 20, 21, 22, 23, 24, 25, 26, 27, 28, 29, 30, 31, 32, 33, 34, 35, 36, 37, 38, 39, 40, 41, 42, 43, 44] (by decide +kernel) (by decide +kernel)
set_option maxRecDepth 20000 in
theorem gX1_begin_X1_sendRequest : GoodIn wsX1_begin (wsV RX1 45 RX1 yX1_sendRequest wsX1_sendRequest) := goodIn_app (goodIn_of _ (by decide +kernel)) ggX1_begin_X1_sendRequest
theorem dX1_begin_0 : decode cX1_begin 0 = .ok (.aload_n 0, 1) := by decide +kernel
theorem dX1_begin_1 : decode cX1_begin 1 = .ok (.getfield 9, 3) := by decide +kernel
theorem dX1_begin_4 : decode cX1_begin 4 = .ok (.iload_n 1, 1) := by decide +kernel
theorem dX1_begin_5 : decode cX1_begin 5 = .ok (.iload_n 2, 1) := by decide +kernel
theorem dX1_begin_6 : decode cX1_begin 6 = .ok (.iastore, 1) := by decide +kernel
theorem dX1_begin_7 : decode cX1_begin 7 = .ok (.aload_n 0, 1) := by decide +kernel
theorem dX1_begin_8 : decode cX1_begin 8 = .ok (.getfield 15, 3) := by decide +kernel
theorem dX1_begin_11 : decode cX1_begin 11 = .ok (.iload_n 1, 1) := by decide +kernel
theorem dX1_begin_12 : decode cX1_begin 12 = .ok (.iconst (-1), 1) := by decide +kernel
theorem dX1_begin_13 : decode cX1_begin 13 = .ok (.iastore, 1) := by decide +kernel
theorem dX1_begin_14 : decode cX1_begin 14 = .ok (.aload_n 0, 1) := by decide +kernel
theorem dX1_begin_15 : decode cX1_begin 15 = .ok (.iload_n 1, 1) := by decide +kernel
theorem dX1_begin_16 : decode cX1_begin 16 = .ok (.iload_n 3, 1) := by decide +kernel
theorem dX1_begin_17 : decode cX1_begin 17 = .ok (.invokevirtual 45, 3) := by decide +kernel
theorem dX1_begin_20 : decode cX1_begin 20 = .ok (.return_, 1) := by decide +kernel
set_option maxRecDepth 20000 in
theorem ggX1_sendRequest_X2_send : GoodIn wsX1_sendRequest wsX2_send := goodIn_r _ [7, 8, 9, 10, 11, 12, 13, 14, 15, 5, 16, 17, 18, 19, 20, 21, 32, 33, 34, 35, 36, 37] (by decide +kernel) (by decide +kernel)
set_option maxRecDepth 20000 in
theorem gX1_sendRequest_X2_send_n49 : GoodIn wsX1_sendRequest (wsX2_send) := ggX1_sendRequest_X2_send
theorem dX1_sendRequest_0 : decode cX1_sendRequest 0 = .ok (.aload_n 0, 1) := by decide +kernel
theorem dX1_sendRequest_1 : decode cX1_sendRequest 1 = .ok (.getfield 21, 3) := by decide +kernel
theorem dX1_sendRequest_4 : decode cX1_sendRequest 4 = .ok (.iload_n 1, 1) := by decide +kernel
theorem dX1_sendRequest_5 : decode cX1_sendRequest 5 = .ok (.dup2, 1) := by decide +kernel
theorem dX1_sendRequest_6 : decode cX1_sendRequest 6 = .ok (.iaload, 1) := by decide +kernel
theorem dX1_sendRequest_7 : decode cX1_sendRequest 7 = .ok (.iconst 1, 1) := by decide +kernel
theorem dX1_sendRequest_8 : decode cX1_sendRequest 8 = .ok (.iadd, 1) := by decide +kernel
theorem dX1_sendRequest_9 : decode cX1_sendRequest 9 = .ok (.iastore, 1) := by decide +kernel
theorem dX1_sendRequest_10 : decode cX1_sendRequest 10 = .ok (.aload_n 0, 1) := by decide +kernel
theorem dX1_sendRequest_11 : decode cX1_sendRequest 11 = .ok (.getfield 24, 3) := by decide +kernel
theorem dX1_sendRequest_14 : decode cX1_sendRequest 14 = .ok (.iload_n 1, 1) := by decide +kernel
theorem dX1_sendRequest_15 : decode cX1_sendRequest 15 = .ok (.iload_n 2, 1) := by decide +kernel
theorem dX1_sendRequest_16 : decode cX1_sendRequest 16 = .ok (.iastore, 1) := by decide +kernel
theorem dX1_sendRequest_17 : decode cX1_sendRequest 17 = .ok (.aload_n 0, 1) := by decide +kernel
theorem dX1_sendRequest_18 : decode cX1_sendRequest 18 = .ok (.getfield 41, 3) := by decide +kernel
theorem dX1_sendRequest_21 : decode cX1_sendRequest 21 = .ok (.iconst 0, 1) := by decide +kernel
theorem dX1_sendRequest_22 : decode cX1_sendRequest 22 = .ok (.iload_n 1, 1) := by decide +kernel
theorem dX1_sendRequest_23 : decode cX1_sendRequest 23 = .ok (.iconst 0, 1) := by decide +kernel
theorem dX1_sendRequest_24 : decode cX1_sendRequest 24 = .ok (.iconst 0, 1) := by decide +kernel
theorem dX1_sendRequest_25 : decode cX1_sendRequest 25 = .ok (.invokevirtual 49, 3) := by decide +kernel
theorem dX1_sendRequest_28 : decode cX1_sendRequest 28 = .ok (.return_, 1) := by decide +kernel
set_option maxRecDepth 20000 in
theorem ggX1_endSilently_X1_cancelOrphans : GoodIn wsX1_endSilently wsX1_cancelOrphans := goodIn_r _ [6, 7, 1, 8, 9, 10, 11, 5, 12, 13, 14, 15, 16, 17, 18, 19, 20, 21, 22, 23, 24, 25, 26, 27, 28, 29, 30, 31, 32, 33, 34, 35, 36, 37, 38, 39, 40, 41, 42, 43, 44, 45, 46, 47, 48, 49, 50, 51, 52, 53, 54, 55, 56] (by decide +kernel) (by decide +kernel)
set_option maxRecDepth 20000 in
theorem gX1_endSilently_X1_cancelOrphans : GoodIn wsX1_endSilently (wsV RX1 55 RX1 yX1_cancelOrphans wsX1_cancelOrphans) := goodIn_app (goodIn_of _ (by decide +kernel)) ggX1_endSilently_X1_cancelOrphans
theorem dX1_endSilently_0 : decode cX1_endSilently 0 = .ok (.aload_n 0, 1) := by decide +kernel
theorem dX1_endSilently_1 : decode cX1_endSilently 1 = .ok (.getfield 15, 3) := by decide +kernel
theorem dX1_endSilently_4 : decode cX1_endSilently 4 = .ok (.iload_n 1, 1) := by decide +kernel
theorem dX1_endSilently_5 : decode cX1_endSilently 5 = .ok (.iload_n 2, 1) := by decide +kernel
theorem dX1_endSilently_6 : decode cX1_endSilently 6 = .ok (.iastore, 1) := by decide +kernel
theorem dX1_endSilently_7 : decode cX1_endSilently 7 = .ok (.iconst 1, 1) := by decide +kernel
theorem dX1_endSilently_8 : decode cX1_endSilently 8 = .ok (.aload_n 0, 1) := by decide +kernel
theorem dX1_endSilently_9 : decode cX1_endSilently 9 = .ok (.iload_n 1, 1) := by decide +kernel
theorem dX1_endSilently_10 : decode cX1_endSilently 10 = .ok (.invokevirtual 55, 3) := by decide +kernel
theorem dX1_endSilently_13 : decode cX1_endSilently 13 = .ok (.iadd, 1) := by decide +kernel
theorem dX1_endSilently_14 : decode cX1_endSilently 14 = .ok (.ireturn, 1) := by decide +kernel
set_option maxRecDepth 20000 in
theorem ggX1_endAndTell_X2_send : GoodIn wsX1_endAndTell wsX2_send := goodIn_r _ [6, 7, 8, 9, 10, 11, 12, 13, 14, 4, 15, 16, 17, 18, 19, 20, 47, 48, 49, 50, 51, 52] (by decide +kernel) (by decide +kernel)
set_option maxRecDepth 20000 in
theorem gX1_endAndTell_X2_send_n49 : GoodIn wsX1_endAndTell (wsX2_send) := ggX1_endAndTell_X2_send
set_option maxRecDepth 20000 in
theorem ggX1_endAndTell_X1_cancelOrphans : GoodIn wsX1_endAndTell wsX1_cancelOrphans := goodIn_r _ [25, 26, 1, 2, 27, 28, 29, 24, 30, 31, 32, 33, 34, 35, 36, 3, 4, 5, 6, 7, 8, 9, 10, 11, 12, 13, 14, 15, 16, 17, 18, 19, 20, 37, 38, 39, 40, 41, 42, 43, 44, 45, 46, 53, 54, 55, 56, 47, 48, 49, 50, 51, 52] (by decide +kernel) (by decide +kernel)
set_option maxRecDepth 20000 in
theorem gX1_endAndTell_X1_cancelOrphans : GoodIn wsX1_endAndTell (wsV RX1 55 RX1 yX1_cancelOrphans wsX1_cancelOrphans) := goodIn_app (goodIn_of _ (by decide +kernel)) ggX1_endAndTell_X1_cancelOrphans
theorem dX1_endAndTell_0 : decode cX1_endAndTell 0 = .ok (.aload_n 0, 1) := by decide +kernel
theorem dX1_endAndTell_1 : decode cX1_endAndTell 1 = .ok (.getfield 15, 3) := by decide +kernel
theorem dX1_endAndTell_4 : decode cX1_endAndTell 4 = .ok (.iload_n 1, 1) := by decide +kernel
theorem dX1_endAndTell_5 : decode cX1_endAndTell 5 = .ok (.iload_n 2, 1) := by decide +kernel
theorem dX1_endAndTell_6 : decode cX1_endAndTell 6 = .ok (.iastore, 1) := by decide +kernel
theorem dX1_endAndTell_7 : decode cX1_endAndTell 7 = .ok (.aload_n 0, 1) := by decide +kernel
theorem dX1_endAndTell_8 : decode cX1_endAndTell 8 = .ok (.getfield 41, 3) := by decide +kernel
theorem dX1_endAndTell_11 : decode cX1_endAndTell 11 = .ok (.iconst 1, 1) := by decide +kernel
theorem dX1_endAndTell_12 : decode cX1_endAndTell 12 = .ok (.iload_n 1, 1) := by decide +kernel
theorem dX1_endAndTell_13 : decode cX1_endAndTell 13 = .ok (.iconst 0, 1) := by decide +kernel
theorem dX1_endAndTell_14 : decode cX1_endAndTell 14 = .ok (.iconst 0, 1) := by decide +kernel
theorem dX1_endAndTell_15 : decode cX1_endAndTell 15 = .ok (.invokevirtual 49, 3) := by decide +kernel
theorem dX1_endAndTell_18 : decode cX1_endAndTell 18 = .ok (.iconst 1, 1) := by decide +kernel
theorem dX1_endAndTell_19 : decode cX1_endAndTell 19 = .ok (.aload_n 0, 1) := by decide +kernel
theorem dX1_endAndTell_20 : decode cX1_endAndTell 20 = .ok (.iload_n 1, 1) := by decide +kernel
theorem dX1_endAndTell_21 : decode cX1_endAndTell 21 = .ok (.invokevirtual 55, 3) := by decide +kernel
theorem dX1_endAndTell_24 : decode cX1_endAndTell 24 = .ok (.iadd, 1) := by decide +kernel
theorem dX1_endAndTell_25 : decode cX1_endAndTell 25 = .ok (.ireturn, 1) := by decide +kernel
set_option maxRecDepth 20000 in
theorem ggX1_cancelOrphans_X1_hasEndedParent : GoodIn wsX1_cancelOrphans wsX1_hasEndedParent := goodIn_r _ [8, 9, 1, 2, 10, 11, 12, 13, 14, 33, 34, 35, 36, 37, 38, 39, 40, 41, 42, 43, 44, 45, 46] (by decide +kernel) (by decide +kernel)
set_option maxRecDepth 20000 in
theorem gX1_cancelOrphans_X1_hasEndedParent : GoodIn wsX1_cancelOrphans (wsV RX1 64 RX1 yX1_hasEndedParent wsX1_hasEndedParent) := goodIn_app (goodIn_of _ (by decide +kernel)) ggX1_cancelOrphans_X1_hasEndedParent
set_option maxRecDepth 20000 in
theorem ggX1_cancelOrphans_X2_send : GoodIn wsX1_cancelOrphans wsX2_send := goodIn_r _ [18, 19, 20, 21, 22, 23, 24, 25, 26, 16, 27, 28, 29, 30, 31, 32, 47, 48, 49, 50, 51, 52] (by decide +kernel) (by decide +kernel)
set_option maxRecDepth 20000 in
theorem gX1_cancelOrphans_X2_send_n49 : GoodIn wsX1_cancelOrphans (wsX2_send) := ggX1_cancelOrphans_X2_send
theorem dX1_cancelOrphans_0 : decode cX1_cancelOrphans 0 = .ok (.iconst 0, 1) := by decide +kernel
theorem dX1_cancelOrphans_1 : decode cX1_cancelOrphans 1 = .ok (.istore_n 2, 1) := by decide +kernel
theorem dX1_cancelOrphans_2 : decode cX1_cancelOrphans 2 = .ok (.iload_n 1, 1) := by decide +kernel
theorem dX1_cancelOrphans_3 : decode cX1_cancelOrphans 3 = .ok (.iconst 1, 1) := by decide +kernel
theorem dX1_cancelOrphans_4 : decode cX1_cancelOrphans 4 = .ok (.iadd, 1) := by decide +kernel
theorem dX1_cancelOrphans_5 : decode cX1_cancelOrphans 5 = .ok (.istore_n 3, 1) := by decide +kernel
theorem dX1_cancelOrphans_6 : decode cX1_cancelOrphans 6 = .ok (.iload_n 3, 1) := by decide +kernel
theorem dX1_cancelOrphans_7 : decode cX1_cancelOrphans 7 = .ok (.aload_n 0, 1) := by decide +kernel
theorem dX1_cancelOrphans_8 : decode cX1_cancelOrphans 8 = .ok (.getfield 37, 3) := by decide +kernel
theorem dX1_cancelOrphans_11 : decode cX1_cancelOrphans 11 = .ok (.getfield 59, 3) := by decide +kernel
theorem dX1_cancelOrphans_14 : decode cX1_cancelOrphans 14 = .ok (.if_icmp .ge 48, 3) := by decide +kernel
theorem dX1_cancelOrphans_17 : decode cX1_cancelOrphans 17 = .ok (.aload_n 0, 1) := by decide +kernel
theorem dX1_cancelOrphans_18 : decode cX1_cancelOrphans 18 = .ok (.getfield 15, 3) := by decide +kernel
theorem dX1_cancelOrphans_21 : decode cX1_cancelOrphans 21 = .ok (.iload_n 3, 1) := by decide +kernel
theorem dX1_cancelOrphans_22 : decode cX1_cancelOrphans 22 = .ok (.iaload, 1) := by decide +kernel
theorem dX1_cancelOrphans_23 : decode cX1_cancelOrphans 23 = .ok (.iconst (-1), 1) := by decide +kernel
theorem dX1_cancelOrphans_24 : decode cX1_cancelOrphans 24 = .ok (.if_icmp .ne 32, 3) := by decide +kernel
theorem dX1_cancelOrphans_27 : decode cX1_cancelOrphans 27 = .ok (.aload_n 0, 1) := by decide +kernel
theorem dX1_cancelOrphans_28 : decode cX1_cancelOrphans 28 = .ok (.iload_n 3, 1) := by decide +kernel
theorem dX1_cancelOrphans_29 : decode cX1_cancelOrphans 29 = .ok (.invokevirtual 64, 3) := by decide +kernel
theorem dX1_cancelOrphans_32 : decode cX1_cancelOrphans 32 = .ok (.ifCond .eq 24, 3) := by decide +kernel
theorem dX1_cancelOrphans_35 : decode cX1_cancelOrphans 35 = .ok (.aload_n 0, 1) := by decide +kernel
theorem dX1_cancelOrphans_36 : decode cX1_cancelOrphans 36 = .ok (.getfield 15, 3) := by decide +kernel
theorem dX1_cancelOrphans_39 : decode cX1_cancelOrphans 39 = .ok (.iload_n 3, 1) := by decide +kernel
theorem dX1_cancelOrphans_40 : decode cX1_cancelOrphans 40 = .ok (.iconst 1, 1) := by decide +kernel
theorem dX1_cancelOrphans_41 : decode cX1_cancelOrphans 41 = .ok (.iastore, 1) := by decide +kernel
theorem dX1_cancelOrphans_42 : decode cX1_cancelOrphans 42 = .ok (.aload_n 0, 1) := by decide +kernel
theorem dX1_cancelOrphans_43 : decode cX1_cancelOrphans 43 = .ok (.getfield 41, 3) := by decide +kernel
theorem dX1_cancelOrphans_46 : decode cX1_cancelOrphans 46 = .ok (.iconst 1, 1) := by decide +kernel
theorem dX1_cancelOrphans_47 : decode cX1_cancelOrphans 47 = .ok (.iload_n 3, 1) := by decide +kernel
theorem dX1_cancelOrphans_48 : decode cX1_cancelOrphans 48 = .ok (.iconst 0, 1) := by decide +kernel
theorem dX1_cancelOrphans_49 : decode cX1_cancelOrphans 49 = .ok (.iconst 0, 1) := by decide +kernel
theorem dX1_cancelOrphans_50 : decode cX1_cancelOrphans 50 = .ok (.invokevirtual 49, 3) := by decide +kernel
theorem dX1_cancelOrphans_53 : decode cX1_cancelOrphans 53 = .ok (.iinc 2 1, 3) := by decide +kernel
theorem dX1_cancelOrphans_56 : decode cX1_cancelOrphans 56 = .ok (.iinc 3 1, 3) := by decide +kernel
theorem dX1_cancelOrphans_59 : decode cX1_cancelOrphans 59 = .ok (.goto (-53), 3) := by decide +kernel
theorem dX1_cancelOrphans_62 : decode cX1_cancelOrphans 62 = .ok (.iload_n 2, 1) := by decide +kernel
theorem dX1_cancelOrphans_63 : decode cX1_cancelOrphans 63 = .ok (.ireturn, 1) := by decide +kernel
set_option maxRecDepth 20000 in
theorem ggX1_hasEndedParent_X0_has : GoodIn wsX1_hasEndedParent wsX0_has := goodIn_r _ [7, 8, 19, 20, 21, 22] (by decide +kernel) (by decide +kernel)
set_option maxRecDepth 20000 in
theorem gX1_hasEndedParent_X0_has_n68 : GoodIn wsX1_hasEndedParent (wsX0_has) := ggX1_hasEndedParent_X0_has
theorem dX1_hasEndedParent_0 : decode cX1_hasEndedParent 0 = .ok (.aload_n 0, 1) := by decide +kernel
theorem dX1_hasEndedParent_1 : decode cX1_hasEndedParent 1 = .ok (.getfield 9, 3) := by decide +kernel
theorem dX1_hasEndedParent_4 : decode cX1_hasEndedParent 4 = .ok (.iload_n 1, 1) := by decide +kernel
theorem dX1_hasEndedParent_5 : decode cX1_hasEndedParent 5 = .ok (.iaload, 1) := by decide +kernel
theorem dX1_hasEndedParent_6 : decode cX1_hasEndedParent 6 = .ok (.istore_n 2, 1) := by decide +kernel
theorem dX1_hasEndedParent_7 : decode cX1_hasEndedParent 7 = .ok (.aload_n 0, 1) := by decide +kernel
theorem dX1_hasEndedParent_8 : decode cX1_hasEndedParent 8 = .ok (.getfield 37, 3) := by decide +kernel
theorem dX1_hasEndedParent_11 : decode cX1_hasEndedParent 11 = .ok (.iload_n 2, 1) := by decide +kernel
theorem dX1_hasEndedParent_12 : decode cX1_hasEndedParent 12 = .ok (.invokevirtual 68, 3) := by decide +kernel
theorem dX1_hasEndedParent_15 : decode cX1_hasEndedParent 15 = .ok (.ifCond .eq 17, 3) := by decide +kernel
theorem dX1_hasEndedParent_18 : decode cX1_hasEndedParent 18 = .ok (.aload_n 0, 1) := by decide +kernel
theorem dX1_hasEndedParent_19 : decode cX1_hasEndedParent 19 = .ok (.getfield 15, 3) := by decide +kernel
theorem dX1_hasEndedParent_22 : decode cX1_hasEndedParent 22 = .ok (.iload_n 2, 1) := by decide +kernel
theorem dX1_hasEndedParent_23 : decode cX1_hasEndedParent 23 = .ok (.iaload, 1) := by decide +kernel
theorem dX1_hasEndedParent_24 : decode cX1_hasEndedParent 24 = .ok (.iconst (-1), 1) := by decide +kernel
theorem dX1_hasEndedParent_25 : decode cX1_hasEndedParent 25 = .ok (.if_icmp .eq 7, 3) := by decide +kernel
theorem dX1_hasEndedParent_28 : decode cX1_hasEndedParent 28 = .ok (.iconst 1, 1) := by decide +kernel
theorem dX1_hasEndedParent_29 : decode cX1_hasEndedParent 29 = .ok (.goto 4, 3) := by decide +kernel
theorem dX1_hasEndedParent_32 : decode cX1_hasEndedParent 32 = .ok (.iconst 0, 1) := by decide +kernel
theorem dX1_hasEndedParent_33 : decode cX1_hasEndedParent 33 = .ok (.ireturn, 1) := by decide +kernel
set_option maxRecDepth 20000 in
theorem ggX1_take_X1_takeAnswer : GoodIn wsX1_take wsX1_takeAnswer := goodIn_r _ [6, 7, 8, 9, 10, 11, 12, 13, 14, 15, 16, 17, 5, 18, 1, 19, 20, 21, 22, 23, 24, 25, 26, 27, 28, 29, 30, 31, 32, 33, 34, 35, 36, 37, 38, 39, 40, 41, 42, 43, 44, 45, 46, 47, 48, 49, 50, 51, 61, 62, 63, 64, 65, 66, 67, 68, 69, 70, 71, 72, 73, 74, 75, 76, 77, 78, 79, 80] (by decide +kernel) (by decide +kernel)
set_option maxRecDepth 20000 in
theorem gX1_take_X1_takeAnswer : GoodIn wsX1_take (wsV RX1 71 RX1 yX1_takeAnswer wsX1_takeAnswer) := goodIn_app (goodIn_of _ (by decide +kernel)) ggX1_take_X1_takeAnswer
set_option maxRecDepth 20000 in
theorem ggX1_take_X1_takeItem : GoodIn wsX1_take wsX1_takeItem := goodIn_r _ [55, 8, 56, 57, 58, 59, 5, 60, 1, 23, 34, 35, 36, 37, 38, 39, 40, 41, 42, 43, 44, 45, 46, 47, 48, 49, 50, 51, 19, 20, 21, 22, 7, 24, 25, 26, 27, 28, 29, 30, 31, 32, 33, 61, 62, 63, 64, 65, 66, 67, 68, 69, 70, 75, 76, 77, 78, 79, 80, 71, 72, 73, 74] (by decide +kernel) (by decide +kernel)
set_option maxRecDepth 20000 in
theorem gX1_take_X1_takeItem : GoodIn wsX1_take (wsV RX1 75 RX1 yX1_takeItem wsX1_takeItem) := goodIn_app (goodIn_of _ (by decide +kernel)) ggX1_take_X1_takeItem
theorem dX1_take_0 : decode cX1_take 0 = .ok (.aload_n 0, 1) := by decide +kernel
theorem dX1_take_1 : decode cX1_take 1 = .ok (.getfield 15, 3) := by decide +kernel
theorem dX1_take_4 : decode cX1_take 4 = .ok (.iload_n 2, 1) := by decide +kernel
theorem dX1_take_5 : decode cX1_take 5 = .ok (.iaload, 1) := by decide +kernel
theorem dX1_take_6 : decode cX1_take 6 = .ok (.iconst (-1), 1) := by decide +kernel
theorem dX1_take_7 : decode cX1_take 7 = .ok (.if_icmp .eq 4, 3) := by decide +kernel
theorem dX1_take_10 : decode cX1_take 10 = .ok (.return_, 1) := by decide +kernel
theorem dX1_take_11 : decode cX1_take 11 = .ok (.iload_n 1, 1) := by decide +kernel
theorem dX1_take_12 : decode cX1_take 12 = .ok (.iconst 3, 1) := by decide +kernel
theorem dX1_take_13 : decode cX1_take 13 = .ok (.if_icmp .ne 14, 3) := by decide +kernel
theorem dX1_take_16 : decode cX1_take 16 = .ok (.aload_n 0, 1) := by decide +kernel
theorem dX1_take_17 : decode cX1_take 17 = .ok (.iload_n 2, 1) := by decide +kernel
theorem dX1_take_18 : decode cX1_take 18 = .ok (.iload_n 3, 1) := by decide +kernel
theorem dX1_take_19 : decode cX1_take 19 = .ok (.iload 4, 2) := by decide +kernel
theorem dX1_take_21 : decode cX1_take 21 = .ok (.invokevirtual 71, 3) := by decide +kernel
theorem dX1_take_24 : decode cX1_take 24 = .ok (.goto 11, 3) := by decide +kernel
theorem dX1_take_27 : decode cX1_take 27 = .ok (.aload_n 0, 1) := by decide +kernel
theorem dX1_take_28 : decode cX1_take 28 = .ok (.iload_n 2, 1) := by decide +kernel
theorem dX1_take_29 : decode cX1_take 29 = .ok (.iload_n 3, 1) := by decide +kernel
theorem dX1_take_30 : decode cX1_take 30 = .ok (.iload 4, 2) := by decide +kernel
theorem dX1_take_32 : decode cX1_take 32 = .ok (.invokevirtual 75, 3) := by decide +kernel
theorem dX1_take_35 : decode cX1_take 35 = .ok (.return_, 1) := by decide +kernel
set_option maxRecDepth 20000 in
theorem ggX1_takeAnswer_X1_endSilently : GoodIn wsX1_takeAnswer wsX1_endSilently := goodIn_r _ [13, 14, 15, 16, 17, 12, 18, 1, 19, 20, 21, 22, 23, 24, 25, 26, 27, 28, 29, 30, 31, 32, 33, 34, 35, 36, 37, 38, 39, 40, 41, 42, 43, 44, 45, 46, 47, 48, 49, 50, 51, 52, 53, 54, 55, 56, 57, 58, 59, 60, 61, 62, 63, 64, 65, 66, 67] (by decide +kernel) (by decide +kernel)
set_option maxRecDepth 20000 in
theorem gX1_takeAnswer_X1_endSilently : GoodIn wsX1_takeAnswer (wsV RX1 81 RX1 yX1_endSilently wsX1_endSilently) := goodIn_app (goodIn_of _ (by decide +kernel)) ggX1_takeAnswer_X1_endSilently
theorem dX1_takeAnswer_0 : decode cX1_takeAnswer 0 = .ok (.aload_n 0, 1) := by decide +kernel
theorem dX1_takeAnswer_1 : decode cX1_takeAnswer 1 = .ok (.getfield 37, 3) := by decide +kernel
theorem dX1_takeAnswer_4 : decode cX1_takeAnswer 4 = .ok (.getfield 78, 3) := by decide +kernel
theorem dX1_takeAnswer_7 : decode cX1_takeAnswer 7 = .ok (.iload_n 1, 1) := by decide +kernel
theorem dX1_takeAnswer_8 : decode cX1_takeAnswer 8 = .ok (.iaload, 1) := by decide +kernel
theorem dX1_takeAnswer_9 : decode cX1_takeAnswer 9 = .ok (.iconst 3, 1) := by decide +kernel
theorem dX1_takeAnswer_10 : decode cX1_takeAnswer 10 = .ok (.if_icmp .ne 21, 3) := by decide +kernel
theorem dX1_takeAnswer_13 : decode cX1_takeAnswer 13 = .ok (.iload_n 3, 1) := by decide +kernel
theorem dX1_takeAnswer_14 : decode cX1_takeAnswer 14 = .ok (.aload_n 0, 1) := by decide +kernel
theorem dX1_takeAnswer_15 : decode cX1_takeAnswer 15 = .ok (.getfield 27, 3) := by decide +kernel
theorem dX1_takeAnswer_18 : decode cX1_takeAnswer 18 = .ok (.iload_n 1, 1) := by decide +kernel
theorem dX1_takeAnswer_19 : decode cX1_takeAnswer 19 = .ok (.iaload, 1) := by decide +kernel
theorem dX1_takeAnswer_20 : decode cX1_takeAnswer 20 = .ok (.if_icmp .eq 11, 3) := by decide +kernel
theorem dX1_takeAnswer_23 : decode cX1_takeAnswer 23 = .ok (.aload_n 0, 1) := by decide +kernel
theorem dX1_takeAnswer_24 : decode cX1_takeAnswer 24 = .ok (.iload_n 1, 1) := by decide +kernel
theorem dX1_takeAnswer_25 : decode cX1_takeAnswer 25 = .ok (.iconst 4, 1) := by decide +kernel
theorem dX1_takeAnswer_26 : decode cX1_takeAnswer 26 = .ok (.invokevirtual 81, 3) := by decide +kernel
theorem dX1_takeAnswer_29 : decode cX1_takeAnswer 29 = .ok (.pop, 1) := by decide +kernel
theorem dX1_takeAnswer_30 : decode cX1_takeAnswer 30 = .ok (.return_, 1) := by decide +kernel
theorem dX1_takeAnswer_31 : decode cX1_takeAnswer 31 = .ok (.aload_n 0, 1) := by decide +kernel
theorem dX1_takeAnswer_32 : decode cX1_takeAnswer 32 = .ok (.getfield 18, 3) := by decide +kernel
theorem dX1_takeAnswer_35 : decode cX1_takeAnswer 35 = .ok (.iload_n 1, 1) := by decide +kernel
theorem dX1_takeAnswer_36 : decode cX1_takeAnswer 36 = .ok (.iload_n 3, 1) := by decide +kernel
theorem dX1_takeAnswer_37 : decode cX1_takeAnswer 37 = .ok (.iastore, 1) := by decide +kernel
theorem dX1_takeAnswer_38 : decode cX1_takeAnswer 38 = .ok (.aload_n 0, 1) := by decide +kernel
theorem dX1_takeAnswer_39 : decode cX1_takeAnswer 39 = .ok (.iload_n 1, 1) := by decide +kernel
theorem dX1_takeAnswer_40 : decode cX1_takeAnswer 40 = .ok (.iload_n 2, 1) := by decide +kernel
theorem dX1_takeAnswer_41 : decode cX1_takeAnswer 41 = .ok (.invokevirtual 81, 3) := by decide +kernel
theorem dX1_takeAnswer_44 : decode cX1_takeAnswer 44 = .ok (.pop, 1) := by decide +kernel
theorem dX1_takeAnswer_45 : decode cX1_takeAnswer 45 = .ok (.iload_n 2, 1) := by decide +kernel
theorem dX1_takeAnswer_46 : decode cX1_takeAnswer 46 = .ok (.ifCond .ne 18, 3) := by decide +kernel
theorem dX1_takeAnswer_49 : decode cX1_takeAnswer 49 = .ok (.aload_n 0, 1) := by decide +kernel
theorem dX1_takeAnswer_50 : decode cX1_takeAnswer 50 = .ok (.aload_n 0, 1) := by decide +kernel
theorem dX1_takeAnswer_51 : decode cX1_takeAnswer 51 = .ok (.getfield 33, 3) := by decide +kernel
theorem dX1_takeAnswer_54 : decode cX1_takeAnswer 54 = .ok (.iconst 1, 1) := by decide +kernel
theorem dX1_takeAnswer_55 : decode cX1_takeAnswer 55 = .ok (.iadd, 1) := by decide +kernel
theorem dX1_takeAnswer_56 : decode cX1_takeAnswer 56 = .ok (.bipush 100, 2) := by decide +kernel
theorem dX1_takeAnswer_58 : decode cX1_takeAnswer 58 = .ok (.invokestatic 85, 3) := by decide +kernel
theorem dX1_takeAnswer_61 : decode cX1_takeAnswer 61 = .ok (.putfield 33, 3) := by decide +kernel
theorem dX1_takeAnswer_64 : decode cX1_takeAnswer 64 = .ok (.return_, 1) := by decide +kernel
set_option maxRecDepth 20000 in
theorem ggX1_takeItem_X1_endAndTell : GoodIn wsX1_takeItem wsX1_endAndTell := goodIn_r _ [7, 8, 9, 10, 11, 12, 13, 14, 15, 16, 17, 18, 19, 20, 21, 22, 23, 24, 25, 26, 27, 28, 29, 30, 6, 31, 32, 33, 34, 35, 36, 37, 38, 39, 40, 41, 42, 43, 44, 45, 46, 47, 48, 49, 50, 51, 52, 53, 54, 55, 56, 57, 58, 59, 60, 61, 62] (by decide +kernel) (by decide +kernel)
set_option maxRecDepth 20000 in
theorem gX1_takeItem_X1_endAndTell : GoodIn wsX1_takeItem (wsV RX1 90 RX1 yX1_endAndTell wsX1_endAndTell) := goodIn_app (goodIn_of _ (by decide +kernel)) ggX1_takeItem_X1_endAndTell
theorem dX1_takeItem_0 : decode cX1_takeItem 0 = .ok (.iload_n 2, 1) := by decide +kernel
theorem dX1_takeItem_1 : decode cX1_takeItem 1 = .ok (.aload_n 0, 1) := by decide +kernel
theorem dX1_takeItem_2 : decode cX1_takeItem 2 = .ok (.getfield 27, 3) := by decide +kernel
theorem dX1_takeItem_5 : decode cX1_takeItem 5 = .ok (.iload_n 1, 1) := by decide +kernel
theorem dX1_takeItem_6 : decode cX1_takeItem 6 = .ok (.iaload, 1) := by decide +kernel
theorem dX1_takeItem_7 : decode cX1_takeItem 7 = .ok (.if_icmp .eq 11, 3) := by decide +kernel
theorem dX1_takeItem_10 : decode cX1_takeItem 10 = .ok (.aload_n 0, 1) := by decide +kernel
theorem dX1_takeItem_11 : decode cX1_takeItem 11 = .ok (.iload_n 1, 1) := by decide +kernel
theorem dX1_takeItem_12 : decode cX1_takeItem 12 = .ok (.iconst 4, 1) := by decide +kernel
theorem dX1_takeItem_13 : decode cX1_takeItem 13 = .ok (.invokevirtual 90, 3) := by decide +kernel
theorem dX1_takeItem_16 : decode cX1_takeItem 16 = .ok (.pop, 1) := by decide +kernel
theorem dX1_takeItem_17 : decode cX1_takeItem 17 = .ok (.return_, 1) := by decide +kernel
theorem dX1_takeItem_18 : decode cX1_takeItem 18 = .ok (.aload_n 0, 1) := by decide +kernel
theorem dX1_takeItem_19 : decode cX1_takeItem 19 = .ok (.getfield 27, 3) := by decide +kernel
theorem dX1_takeItem_22 : decode cX1_takeItem 22 = .ok (.iload_n 1, 1) := by decide +kernel
theorem dX1_takeItem_23 : decode cX1_takeItem 23 = .ok (.dup2, 1) := by decide +kernel
theorem dX1_takeItem_24 : decode cX1_takeItem 24 = .ok (.iaload, 1) := by decide +kernel
theorem dX1_takeItem_25 : decode cX1_takeItem 25 = .ok (.iconst 1, 1) := by decide +kernel
theorem dX1_takeItem_26 : decode cX1_takeItem 26 = .ok (.iadd, 1) := by decide +kernel
theorem dX1_takeItem_27 : decode cX1_takeItem 27 = .ok (.iastore, 1) := by decide +kernel
theorem dX1_takeItem_28 : decode cX1_takeItem 28 = .ok (.aload_n 0, 1) := by decide +kernel
theorem dX1_takeItem_29 : decode cX1_takeItem 29 = .ok (.getfield 30, 3) := by decide +kernel
theorem dX1_takeItem_32 : decode cX1_takeItem 32 = .ok (.iload_n 1, 1) := by decide +kernel
theorem dX1_takeItem_33 : decode cX1_takeItem 33 = .ok (.dup2, 1) := by decide +kernel
theorem dX1_takeItem_34 : decode cX1_takeItem 34 = .ok (.iaload, 1) := by decide +kernel
theorem dX1_takeItem_35 : decode cX1_takeItem 35 = .ok (.iload_n 3, 1) := by decide +kernel
theorem dX1_takeItem_36 : decode cX1_takeItem 36 = .ok (.iadd, 1) := by decide +kernel
theorem dX1_takeItem_37 : decode cX1_takeItem 37 = .ok (.iastore, 1) := by decide +kernel
theorem dX1_takeItem_38 : decode cX1_takeItem 38 = .ok (.return_, 1) := by decide +kernel
set_option maxRecDepth 20000 in
theorem ggX1_endDueCalls_X0_isDue : GoodIn wsX1_endDueCalls wsX0_isDue := goodIn_r _ [6, 7, 55, 56, 57, 58] (by decide +kernel) (by decide +kernel)
set_option maxRecDepth 20000 in
theorem gX1_endDueCalls_X0_isDue_n93 : GoodIn wsX1_endDueCalls (wsX0_isDue) := ggX1_endDueCalls_X0_isDue
set_option maxRecDepth 20000 in
theorem ggX1_endDueCalls_X1_endSilently : GoodIn wsX1_endDueCalls wsX1_endSilently := goodIn_r _ [12, 2, 13, 14, 15, 11, 16, 1, 17, 18, 19, 20, 21, 22, 23, 4, 24, 25, 26, 27, 28, 29, 30, 31, 32, 33, 34, 35, 36, 37, 38, 39, 40, 41, 42, 43, 44, 45, 46, 47, 48, 49, 50, 51, 52, 53, 54, 55, 56, 57, 58, 59, 60, 61, 62, 63, 64] (by decide +kernel) (by decide +kernel)
set_option maxRecDepth 20000 in
theorem gX1_endDueCalls_X1_endSilently : GoodIn wsX1_endDueCalls (wsV RX1 81 RX1 yX1_endSilently wsX1_endSilently) := goodIn_app (goodIn_of _ (by decide +kernel)) ggX1_endDueCalls_X1_endSilently
theorem dX1_endDueCalls_0 : decode cX1_endDueCalls 0 = .ok (.iconst 0, 1) := by decide +kernel
theorem dX1_endDueCalls_1 : decode cX1_endDueCalls 1 = .ok (.istore_n 2, 1) := by decide +kernel
theorem dX1_endDueCalls_2 : decode cX1_endDueCalls 2 = .ok (.iconst 0, 1) := by decide +kernel
theorem dX1_endDueCalls_3 : decode cX1_endDueCalls 3 = .ok (.istore_n 3, 1) := by decide +kernel
theorem dX1_endDueCalls_4 : decode cX1_endDueCalls 4 = .ok (.iload_n 3, 1) := by decide +kernel
theorem dX1_endDueCalls_5 : decode cX1_endDueCalls 5 = .ok (.aload_n 0, 1) := by decide +kernel
theorem dX1_endDueCalls_6 : decode cX1_endDueCalls 6 = .ok (.getfield 37, 3) := by decide +kernel
theorem dX1_endDueCalls_9 : decode cX1_endDueCalls 9 = .ok (.getfield 59, 3) := by decide +kernel
theorem dX1_endDueCalls_12 : decode cX1_endDueCalls 12 = .ok (.if_icmp .ge 40, 3) := by decide +kernel
theorem dX1_endDueCalls_15 : decode cX1_endDueCalls 15 = .ok (.aload_n 0, 1) := by decide +kernel
theorem dX1_endDueCalls_16 : decode cX1_endDueCalls 16 = .ok (.getfield 15, 3) := by decide +kernel
theorem dX1_endDueCalls_19 : decode cX1_endDueCalls 19 = .ok (.iload_n 3, 1) := by decide +kernel
theorem dX1_endDueCalls_20 : decode cX1_endDueCalls 20 = .ok (.iaload, 1) := by decide +kernel
theorem dX1_endDueCalls_21 : decode cX1_endDueCalls 21 = .ok (.iconst (-1), 1) := by decide +kernel
theorem dX1_endDueCalls_22 : decode cX1_endDueCalls 22 = .ok (.if_icmp .ne 24, 3) := by decide +kernel
theorem dX1_endDueCalls_25 : decode cX1_endDueCalls 25 = .ok (.aload_n 0, 1) := by decide +kernel
theorem dX1_endDueCalls_26 : decode cX1_endDueCalls 26 = .ok (.getfield 37, 3) := by decide +kernel
theorem dX1_endDueCalls_29 : decode cX1_endDueCalls 29 = .ok (.iload_n 3, 1) := by decide +kernel
theorem dX1_endDueCalls_30 : decode cX1_endDueCalls 30 = .ok (.iload_n 1, 1) := by decide +kernel
theorem dX1_endDueCalls_31 : decode cX1_endDueCalls 31 = .ok (.invokevirtual 93, 3) := by decide +kernel
theorem dX1_endDueCalls_34 : decode cX1_endDueCalls 34 = .ok (.ifCond .eq 12, 3) := by decide +kernel
theorem dX1_endDueCalls_37 : decode cX1_endDueCalls 37 = .ok (.iload_n 2, 1) := by decide +kernel
theorem dX1_endDueCalls_38 : decode cX1_endDueCalls 38 = .ok (.aload_n 0, 1) := by decide +kernel
theorem dX1_endDueCalls_39 : decode cX1_endDueCalls 39 = .ok (.iload_n 3, 1) := by decide +kernel
theorem dX1_endDueCalls_40 : decode cX1_endDueCalls 40 = .ok (.iconst 2, 1) := by decide +kernel
theorem dX1_endDueCalls_41 : decode cX1_endDueCalls 41 = .ok (.invokevirtual 81, 3) := by decide +kernel
theorem dX1_endDueCalls_44 : decode cX1_endDueCalls 44 = .ok (.iadd, 1) := by decide +kernel
theorem dX1_endDueCalls_45 : decode cX1_endDueCalls 45 = .ok (.istore_n 2, 1) := by decide +kernel
theorem dX1_endDueCalls_46 : decode cX1_endDueCalls 46 = .ok (.iinc 3 1, 3) := by decide +kernel
theorem dX1_endDueCalls_49 : decode cX1_endDueCalls 49 = .ok (.goto (-45), 3) := by decide +kernel
theorem dX1_endDueCalls_52 : decode cX1_endDueCalls 52 = .ok (.iload_n 2, 1) := by decide +kernel
theorem dX1_endDueCalls_53 : decode cX1_endDueCalls 53 = .ok (.ireturn, 1) := by decide +kernel
set_option maxRecDepth 20000 in
theorem ggX1_repeatRequests_X1_isRepeatDue : GoodIn wsX1_repeatRequests wsX1_isRepeatDue := goodIn_r _ [7, 8, 9, 10, 11, 35, 36, 37, 38, 39, 40, 41, 42, 43, 44] (by decide +kernel) (by decide +kernel)
set_option maxRecDepth 20000 in
theorem gX1_repeatRequests_X1_isRepeatDue : GoodIn wsX1_repeatRequests (wsV RX1 97 RX1 yX1_isRepeatDue wsX1_isRepeatDue) := goodIn_app (goodIn_of _ (by decide +kernel)) ggX1_repeatRequests_X1_isRepeatDue
set_option maxRecDepth 20000 in
theorem ggX1_repeatRequests_X1_sendRequest : GoodIn wsX1_repeatRequests wsX1_sendRequest := goodIn_r _ [15, 10, 11, 16, 17, 18, 19, 20, 21, 22, 23, 24, 25, 26, 27, 28, 29, 30, 31, 32, 33, 34, 35, 36, 37, 38, 39, 40, 41, 42, 43, 44, 49, 50, 51, 52, 53, 54] (by decide +kernel) (by decide +kernel)
set_option maxRecDepth 20000 in
theorem gX1_repeatRequests_X1_sendRequest : GoodIn wsX1_repeatRequests (wsV RX1 45 RX1 yX1_sendRequest wsX1_sendRequest) := goodIn_app (goodIn_of _ (by decide +kernel)) ggX1_repeatRequests_X1_sendRequest
theorem dX1_repeatRequests_0 : decode cX1_repeatRequests 0 = .ok (.iconst 0, 1) := by decide +kernel
theorem dX1_repeatRequests_1 : decode cX1_repeatRequests 1 = .ok (.istore_n 2, 1) := by decide +kernel
theorem dX1_repeatRequests_2 : decode cX1_repeatRequests 2 = .ok (.iload_n 2, 1) := by decide +kernel
theorem dX1_repeatRequests_3 : decode cX1_repeatRequests 3 = .ok (.aload_n 0, 1) := by decide +kernel
theorem dX1_repeatRequests_4 : decode cX1_repeatRequests 4 = .ok (.getfield 37, 3) := by decide +kernel
theorem dX1_repeatRequests_7 : decode cX1_repeatRequests 7 = .ok (.getfield 59, 3) := by decide +kernel
theorem dX1_repeatRequests_10 : decode cX1_repeatRequests 10 = .ok (.if_icmp .ge 44, 3) := by decide +kernel
theorem dX1_repeatRequests_13 : decode cX1_repeatRequests 13 = .ok (.aload_n 0, 1) := by decide +kernel
theorem dX1_repeatRequests_14 : decode cX1_repeatRequests 14 = .ok (.iload_n 2, 1) := by decide +kernel
theorem dX1_repeatRequests_15 : decode cX1_repeatRequests 15 = .ok (.iload_n 1, 1) := by decide +kernel
theorem dX1_repeatRequests_16 : decode cX1_repeatRequests 16 = .ok (.invokevirtual 97, 3) := by decide +kernel
theorem dX1_repeatRequests_19 : decode cX1_repeatRequests 19 = .ok (.ifCond .eq 29, 3) := by decide +kernel
theorem dX1_repeatRequests_22 : decode cX1_repeatRequests 22 = .ok (.aload_n 0, 1) := by decide +kernel
theorem dX1_repeatRequests_23 : decode cX1_repeatRequests 23 = .ok (.getfield 33, 3) := by decide +kernel
theorem dX1_repeatRequests_26 : decode cX1_repeatRequests 26 = .ok (.bipush 10, 2) := by decide +kernel
theorem dX1_repeatRequests_28 : decode cX1_repeatRequests 28 = .ok (.if_icmp .lt 20, 3) := by decide +kernel
theorem dX1_repeatRequests_31 : decode cX1_repeatRequests 31 = .ok (.aload_n 0, 1) := by decide +kernel
theorem dX1_repeatRequests_32 : decode cX1_repeatRequests 32 = .ok (.dup, 1) := by decide +kernel
theorem dX1_repeatRequests_33 : decode cX1_repeatRequests 33 = .ok (.getfield 33, 3) := by decide +kernel
theorem dX1_repeatRequests_36 : decode cX1_repeatRequests 36 = .ok (.bipush 10, 2) := by decide +kernel
theorem dX1_repeatRequests_38 : decode cX1_repeatRequests 38 = .ok (.isub, 1) := by decide +kernel
theorem dX1_repeatRequests_39 : decode cX1_repeatRequests 39 = .ok (.putfield 33, 3) := by decide +kernel
theorem dX1_repeatRequests_42 : decode cX1_repeatRequests 42 = .ok (.aload_n 0, 1) := by decide +kernel
theorem dX1_repeatRequests_43 : decode cX1_repeatRequests 43 = .ok (.iload_n 2, 1) := by decide +kernel
theorem dX1_repeatRequests_44 : decode cX1_repeatRequests 44 = .ok (.iload_n 1, 1) := by decide +kernel
theorem dX1_repeatRequests_45 : decode cX1_repeatRequests 45 = .ok (.invokevirtual 45, 3) := by decide +kernel
theorem dX1_repeatRequests_48 : decode cX1_repeatRequests 48 = .ok (.iinc 2 1, 3) := by decide +kernel
theorem dX1_repeatRequests_51 : decode cX1_repeatRequests 51 = .ok (.goto (-49), 3) := by decide +kernel
theorem dX1_repeatRequests_54 : decode cX1_repeatRequests 54 = .ok (.return_, 1) := by decide +kernel
theorem dX1_isRepeatDue_0 : decode cX1_isRepeatDue 0 = .ok (.aload_n 0, 1) := by decide +kernel
theorem dX1_isRepeatDue_1 : decode cX1_isRepeatDue 1 = .ok (.getfield 15, 3) := by decide +kernel
theorem dX1_isRepeatDue_4 : decode cX1_isRepeatDue 4 = .ok (.iload_n 1, 1) := by decide +kernel
theorem dX1_isRepeatDue_5 : decode cX1_isRepeatDue 5 = .ok (.iaload, 1) := by decide +kernel
theorem dX1_isRepeatDue_6 : decode cX1_isRepeatDue 6 = .ok (.iconst (-1), 1) := by decide +kernel
theorem dX1_isRepeatDue_7 : decode cX1_isRepeatDue 7 = .ok (.if_icmp .ne 39, 3) := by decide +kernel
theorem dX1_isRepeatDue_10 : decode cX1_isRepeatDue 10 = .ok (.aload_n 0, 1) := by decide +kernel
theorem dX1_isRepeatDue_11 : decode cX1_isRepeatDue 11 = .ok (.getfield 27, 3) := by decide +kernel
theorem dX1_isRepeatDue_14 : decode cX1_isRepeatDue 14 = .ok (.iload_n 1, 1) := by decide +kernel
theorem dX1_isRepeatDue_15 : decode cX1_isRepeatDue 15 = .ok (.iaload, 1) := by decide +kernel
theorem dX1_isRepeatDue_16 : decode cX1_isRepeatDue 16 = .ok (.ifCond .ne 30, 3) := by decide +kernel
theorem dX1_isRepeatDue_19 : decode cX1_isRepeatDue 19 = .ok (.aload_n 0, 1) := by decide +kernel
theorem dX1_isRepeatDue_20 : decode cX1_isRepeatDue 20 = .ok (.getfield 21, 3) := by decide +kernel
theorem dX1_isRepeatDue_23 : decode cX1_isRepeatDue 23 = .ok (.iload_n 1, 1) := by decide +kernel
theorem dX1_isRepeatDue_24 : decode cX1_isRepeatDue 24 = .ok (.iaload, 1) := by decide +kernel
theorem dX1_isRepeatDue_25 : decode cX1_isRepeatDue 25 = .ok (.iconst 4, 1) := by decide +kernel
theorem dX1_isRepeatDue_26 : decode cX1_isRepeatDue 26 = .ok (.if_icmp .ge 20, 3) := by decide +kernel
theorem dX1_isRepeatDue_29 : decode cX1_isRepeatDue 29 = .ok (.iload_n 2, 1) := by decide +kernel
theorem dX1_isRepeatDue_30 : decode cX1_isRepeatDue 30 = .ok (.aload_n 0, 1) := by decide +kernel
theorem dX1_isRepeatDue_31 : decode cX1_isRepeatDue 31 = .ok (.getfield 24, 3) := by decide +kernel
theorem dX1_isRepeatDue_34 : decode cX1_isRepeatDue 34 = .ok (.iload_n 1, 1) := by decide +kernel
theorem dX1_isRepeatDue_35 : decode cX1_isRepeatDue 35 = .ok (.iaload, 1) := by decide +kernel
theorem dX1_isRepeatDue_36 : decode cX1_isRepeatDue 36 = .ok (.isub, 1) := by decide +kernel
theorem dX1_isRepeatDue_37 : decode cX1_isRepeatDue 37 = .ok (.bipush 8, 2) := by decide +kernel
theorem dX1_isRepeatDue_39 : decode cX1_isRepeatDue 39 = .ok (.if_icmp .lt 7, 3) := by decide +kernel
theorem dX1_isRepeatDue_42 : decode cX1_isRepeatDue 42 = .ok (.iconst 1, 1) := by decide +kernel
theorem dX1_isRepeatDue_43 : decode cX1_isRepeatDue 43 = .ok (.goto 4, 3) := by decide +kernel
theorem dX1_isRepeatDue_46 : decode cX1_isRepeatDue 46 = .ok (.iconst 0, 1) := by decide +kernel
theorem dX1_isRepeatDue_47 : decode cX1_isRepeatDue 47 = .ok (.ireturn, 1) := by decide +kernel
theorem dX2_init_0 : decode cX2_init 0 = .ok (.aload_n 0, 1) := by decide +kernel
theorem dX2_init_1 : decode cX2_init 1 = .ok (.invokespecial 3, 3) := by decide +kernel
theorem dX2_init_4 : decode cX2_init 4 = .ok (.aload_n 0, 1) := by decide +kernel
theorem dX2_init_5 : decode cX2_init 5 = .ok (.bipush 40, 2) := by decide +kernel
theorem dX2_init_7 : decode cX2_init 7 = .ok (.newarray .int, 2) := by decide +kernel
theorem dX2_init_9 : decode cX2_init 9 = .ok (.putfield 9, 3) := by decide +kernel
theorem dX2_init_12 : decode cX2_init 12 = .ok (.aload_n 0, 1) := by decide +kernel
theorem dX2_init_13 : decode cX2_init 13 = .ok (.bipush 40, 2) := by decide +kernel
theorem dX2_init_15 : decode cX2_init 15 = .ok (.newarray .int, 2) := by decide +kernel
theorem dX2_init_17 : decode cX2_init 17 = .ok (.putfield 15, 3) := by decide +kernel
theorem dX2_init_20 : decode cX2_init 20 = .ok (.aload_n 0, 1) := by decide +kernel
theorem dX2_init_21 : decode cX2_init 21 = .ok (.bipush 40, 2) := by decide +kernel
theorem dX2_init_23 : decode cX2_init 23 = .ok (.newarray .int, 2) := by decide +kernel
theorem dX2_init_25 : decode cX2_init 25 = .ok (.putfield 18, 3) := by decide +kernel
theorem dX2_init_28 : decode cX2_init 28 = .ok (.aload_n 0, 1) := by decide +kernel
theorem dX2_init_29 : decode cX2_init 29 = .ok (.bipush 40, 2) := by decide +kernel
theorem dX2_init_31 : decode cX2_init 31 = .ok (.newarray .int, 2) := by decide +kernel
theorem dX2_init_33 : decode cX2_init 33 = .ok (.putfield 21, 3) := by decide +kernel
theorem dX2_init_36 : decode cX2_init 36 = .ok (.return_, 1) := by decide +kernel
theorem dX2_has_0 : decode cX2_has 0 = .ok (.iload_n 1, 1) := by decide +kernel
theorem dX2_has_1 : decode cX2_has 1 = .ok (.ifCond .lt 15, 3) := by decide +kernel
theorem dX2_has_4 : decode cX2_has 4 = .ok (.iload_n 1, 1) := by decide +kernel
theorem dX2_has_5 : decode cX2_has 5 = .ok (.aload_n 0, 1) := by decide +kernel
theorem dX2_has_6 : decode cX2_has 6 = .ok (.getfield 24, 3) := by decide +kernel
theorem dX2_has_9 : decode cX2_has 9 = .ok (.if_icmp .ge 7, 3) := by decide +kernel
theorem dX2_has_12 : decode cX2_has 12 = .ok (.iconst 1, 1) := by decide +kernel
theorem dX2_has_13 : decode cX2_has 13 = .ok (.goto 4, 3) := by decide +kernel
theorem dX2_has_16 : decode cX2_has 16 = .ok (.iconst 0, 1) := by decide +kernel
theorem dX2_has_17 : decode cX2_has 17 = .ok (.ireturn, 1) := by decide +kernel
set_option maxRecDepth 20000 in
theorem ggX2_slotOf_J9_floorMod_7cf53 : GoodIn wsX2_slotOf wsJ9_floorMod_7cf53 := goodIn_r _ [5] (by decide +kernel) (by decide +kernel)
set_option maxRecDepth 20000 in
theorem gX2_slotOf_J9_floorMod_7cf53 : GoodIn wsX2_slotOf (va_wsS RX2 31 yJ9_floorMod_7cf53 wsJ9_floorMod_7cf53) := goodIn_app (goodIn_of _ (by decide +kernel)) ggX2_slotOf_J9_floorMod_7cf53
theorem dX2_slotOf_0 : decode cX2_slotOf 0 = .ok (.aload_n 0, 1) := by decide +kernel
theorem dX2_slotOf_1 : decode cX2_slotOf 1 = .ok (.getfield 28, 3) := by decide +kernel
theorem dX2_slotOf_4 : decode cX2_slotOf 4 = .ok (.iload_n 1, 1) := by decide +kernel
theorem dX2_slotOf_5 : decode cX2_slotOf 5 = .ok (.iadd, 1) := by decide +kernel
theorem dX2_slotOf_6 : decode cX2_slotOf 6 = .ok (.bipush 40, 2) := by decide +kernel
theorem dX2_slotOf_8 : decode cX2_slotOf 8 = .ok (.invokestatic 31, 3) := by decide +kernel
theorem dX2_slotOf_11 : decode cX2_slotOf 11 = .ok (.ireturn, 1) := by decide +kernel
set_option maxRecDepth 20000 in
theorem ggX2_send_X2_slotOf : GoodIn wsX2_send wsX2_slotOf := goodIn_r _ [10, 11, 12, 13, 14, 15, 16, 17, 18, 19, 20, 21] (by decide +kernel) (by decide +kernel)
set_option maxRecDepth 20000 in
theorem gX2_send_X2_slotOf : GoodIn wsX2_send (wsV RX2 37 RX2 yX2_slotOf wsX2_slotOf) := goodIn_app (goodIn_of _ (by decide +kernel)) ggX2_send_X2_slotOf
theorem dX2_send_0 : decode cX2_send 0 = .ok (.aload_n 0, 1) := by decide +kernel
theorem dX2_send_1 : decode cX2_send 1 = .ok (.getfield 24, 3) := by decide +kernel
theorem dX2_send_4 : decode cX2_send 4 = .ok (.bipush 40, 2) := by decide +kernel
theorem dX2_send_6 : decode cX2_send 6 = .ok (.if_icmp .lt 4, 3) := by decide +kernel
theorem dX2_send_9 : decode cX2_send 9 = .ok (.return_, 1) := by decide +kernel
theorem dX2_send_10 : decode cX2_send 10 = .ok (.aload_n 0, 1) := by decide +kernel
theorem dX2_send_11 : decode cX2_send 11 = .ok (.aload_n 0, 1) := by decide +kernel
theorem dX2_send_12 : decode cX2_send 12 = .ok (.getfield 24, 3) := by decide +kernel
theorem dX2_send_15 : decode cX2_send 15 = .ok (.invokevirtual 37, 3) := by decide +kernel
theorem dX2_send_18 : decode cX2_send 18 = .ok (.istore 5, 2) := by decide +kernel
theorem dX2_send_20 : decode cX2_send 20 = .ok (.aload_n 0, 1) := by decide +kernel
theorem dX2_send_21 : decode cX2_send 21 = .ok (.getfield 9, 3) := by decide +kernel
theorem dX2_send_24 : decode cX2_send 24 = .ok (.iload 5, 2) := by decide +kernel
theorem dX2_send_26 : decode cX2_send 26 = .ok (.iload_n 1, 1) := by decide +kernel
theorem dX2_send_27 : decode cX2_send 27 = .ok (.iastore, 1) := by decide +kernel
theorem dX2_send_28 : decode cX2_send 28 = .ok (.aload_n 0, 1) := by decide +kernel
theorem dX2_send_29 : decode cX2_send 29 = .ok (.getfield 15, 3) := by decide +kernel
theorem dX2_send_32 : decode cX2_send 32 = .ok (.iload 5, 2) := by decide +kernel
theorem dX2_send_34 : decode cX2_send 34 = .ok (.iload_n 2, 1) := by decide +kernel
theorem dX2_send_35 : decode cX2_send 35 = .ok (.iastore, 1) := by decide +kernel
theorem dX2_send_36 : decode cX2_send 36 = .ok (.aload_n 0, 1) := by decide +kernel
theorem dX2_send_37 : decode cX2_send 37 = .ok (.getfield 18, 3) := by decide +kernel
theorem dX2_send_40 : decode cX2_send 40 = .ok (.iload 5, 2) := by decide +kernel
theorem dX2_send_42 : decode cX2_send 42 = .ok (.iload_n 3, 1) := by decide +kernel
theorem dX2_send_43 : decode cX2_send 43 = .ok (.iastore, 1) := by decide +kernel
theorem dX2_send_44 : decode cX2_send 44 = .ok (.aload_n 0, 1) := by decide +kernel
theorem dX2_send_45 : decode cX2_send 45 = .ok (.getfield 21, 3) := by decide +kernel
theorem dX2_send_48 : decode cX2_send 48 = .ok (.iload 5, 2) := by decide +kernel
theorem dX2_send_50 : decode cX2_send 50 = .ok (.iload 4, 2) := by decide +kernel
theorem dX2_send_52 : decode cX2_send 52 = .ok (.iastore, 1) := by decide +kernel
theorem dX2_send_53 : decode cX2_send 53 = .ok (.aload_n 0, 1) := by decide +kernel
theorem dX2_send_54 : decode cX2_send 54 = .ok (.dup, 1) := by decide +kernel
theorem dX2_send_55 : decode cX2_send 55 = .ok (.getfield 24, 3) := by decide +kernel
theorem dX2_send_58 : decode cX2_send 58 = .ok (.iconst 1, 1) := by decide +kernel
theorem dX2_send_59 : decode cX2_send 59 = .ok (.iadd, 1) := by decide +kernel
theorem dX2_send_60 : decode cX2_send 60 = .ok (.putfield 24, 3) := by decide +kernel
theorem dX2_send_63 : decode cX2_send 63 = .ok (.return_, 1) := by decide +kernel
set_option maxRecDepth 20000 in
theorem ggX2_removeFirst_X2_slotOf : GoodIn wsX2_removeFirst wsX2_slotOf := goodIn_r _ [7, 1, 8, 9, 10, 11, 12, 13, 14, 15, 16, 17] (by decide +kernel) (by decide +kernel)
set_option maxRecDepth 20000 in
theorem gX2_removeFirst_X2_slotOf : GoodIn wsX2_removeFirst (wsV RX2 37 RX2 yX2_slotOf wsX2_slotOf) := goodIn_app (goodIn_of _ (by decide +kernel)) ggX2_removeFirst_X2_slotOf
theorem dX2_removeFirst_0 : decode cX2_removeFirst 0 = .ok (.aload_n 0, 1) := by decide +kernel
theorem dX2_removeFirst_1 : decode cX2_removeFirst 1 = .ok (.aload_n 0, 1) := by decide +kernel
theorem dX2_removeFirst_2 : decode cX2_removeFirst 2 = .ok (.iconst 1, 1) := by decide +kernel
theorem dX2_removeFirst_3 : decode cX2_removeFirst 3 = .ok (.invokevirtual 37, 3) := by decide +kernel
theorem dX2_removeFirst_6 : decode cX2_removeFirst 6 = .ok (.putfield 28, 3) := by decide +kernel
theorem dX2_removeFirst_9 : decode cX2_removeFirst 9 = .ok (.aload_n 0, 1) := by decide +kernel
theorem dX2_removeFirst_10 : decode cX2_removeFirst 10 = .ok (.dup, 1) := by decide +kernel
theorem dX2_removeFirst_11 : decode cX2_removeFirst 11 = .ok (.getfield 24, 3) := by decide +kernel
theorem dX2_removeFirst_14 : decode cX2_removeFirst 14 = .ok (.iconst 1, 1) := by decide +kernel
theorem dX2_removeFirst_15 : decode cX2_removeFirst 15 = .ok (.isub, 1) := by decide +kernel
theorem dX2_removeFirst_16 : decode cX2_removeFirst 16 = .ok (.putfield 24, 3) := by decide +kernel
theorem dX2_removeFirst_19 : decode cX2_removeFirst 19 = .ok (.return_, 1) := by decide +kernel
theorem dX3_init_0 : decode cX3_init 0 = .ok (.aload_n 0, 1) := by decide +kernel
theorem dX3_init_1 : decode cX3_init 1 = .ok (.invokespecial 3, 3) := by decide +kernel
theorem dX3_init_4 : decode cX3_init 4 = .ok (.aload_n 0, 1) := by decide +kernel
theorem dX3_init_5 : decode cX3_init 5 = .ok (.bipush 40, 2) := by decide +kernel
theorem dX3_init_7 : decode cX3_init 7 = .ok (.newarray .int, 2) := by decide +kernel
theorem dX3_init_9 : decode cX3_init 9 = .ok (.putfield 9, 3) := by decide +kernel
theorem dX3_init_12 : decode cX3_init 12 = .ok (.aload_n 0, 1) := by decide +kernel
theorem dX3_init_13 : decode cX3_init 13 = .ok (.bipush 40, 2) := by decide +kernel
theorem dX3_init_15 : decode cX3_init 15 = .ok (.newarray .int, 2) := by decide +kernel
theorem dX3_init_17 : decode cX3_init 17 = .ok (.putfield 15, 3) := by decide +kernel
theorem dX3_init_20 : decode cX3_init 20 = .ok (.aload_n 0, 1) := by decide +kernel
theorem dX3_init_21 : decode cX3_init 21 = .ok (.bipush 40, 2) := by decide +kernel
theorem dX3_init_23 : decode cX3_init 23 = .ok (.newarray .int, 2) := by decide +kernel
theorem dX3_init_25 : decode cX3_init 25 = .ok (.putfield 18, 3) := by decide +kernel
theorem dX3_init_28 : decode cX3_init 28 = .ok (.aload_n 0, 1) := by decide +kernel
theorem dX3_init_29 : decode cX3_init 29 = .ok (.bipush 40, 2) := by decide +kernel
theorem dX3_init_31 : decode cX3_init 31 = .ok (.newarray .int, 2) := by decide +kernel
theorem dX3_init_33 : decode cX3_init 33 = .ok (.putfield 21, 3) := by decide +kernel
theorem dX3_init_36 : decode cX3_init 36 = .ok (.aload_n 0, 1) := by decide +kernel
theorem dX3_init_37 : decode cX3_init 37 = .ok (.bipush 40, 2) := by decide +kernel
theorem dX3_init_39 : decode cX3_init 39 = .ok (.newarray .int, 2) := by decide +kernel
theorem dX3_init_41 : decode cX3_init 41 = .ok (.putfield 24, 3) := by decide +kernel
theorem dX3_init_44 : decode cX3_init 44 = .ok (.aload_n 0, 1) := by decide +kernel
theorem dX3_init_45 : decode cX3_init 45 = .ok (.aload_n 1, 1) := by decide +kernel
theorem dX3_init_46 : decode cX3_init 46 = .ok (.putfield 27, 3) := by decide +kernel
theorem dX3_init_49 : decode cX3_init 49 = .ok (.aload_n 0, 1) := by decide +kernel
theorem dX3_init_50 : decode cX3_init 50 = .ok (.aload_n 2, 1) := by decide +kernel
theorem dX3_init_51 : decode cX3_init 51 = .ok (.putfield 31, 3) := by decide +kernel
theorem dX3_init_54 : decode cX3_init 54 = .ok (.return_, 1) := by decide +kernel
set_option maxRecDepth 20000 in
theorem ggX3_take_X3_takeRequest : GoodIn wsX3_take wsX3_takeRequest := goodIn_r _ [7, 1, 8, 2, 9, 10, 11, 6, 12, 13, 14, 15, 16, 17, 18, 19, 20, 21, 22, 23, 24, 25, 26, 27, 28, 29, 30, 31, 32, 33, 34, 35, 36, 37, 38, 43, 44, 45, 46, 47, 48, 49, 50, 51, 52, 53, 54, 55, 56, 57, 58, 59, 60] (by decide +kernel) (by decide +kernel)
set_option maxRecDepth 20000 in
theorem gX3_take_X3_takeRequest : GoodIn wsX3_take (wsV RX3 35 RX3 yX3_takeRequest wsX3_takeRequest) := goodIn_app (goodIn_of _ (by decide +kernel)) ggX3_take_X3_takeRequest
set_option maxRecDepth 20000 in
theorem ggX3_take_X3_takeCancellation : GoodIn wsX3_take wsX3_takeCancellation := goodIn_r _ [42, 1, 43, 44, 45, 46, 47, 48, 49, 50] (by decide +kernel) (by decide +kernel)
set_option maxRecDepth 20000 in
theorem gX3_take_X3_takeCancellation : GoodIn wsX3_take (wsV RX3 39 RX3 yX3_takeCancellation wsX3_takeCancellation) := goodIn_app (goodIn_of _ (by decide +kernel)) ggX3_take_X3_takeCancellation
theorem dX3_take_0 : decode cX3_take 0 = .ok (.iload_n 1, 1) := by decide +kernel
theorem dX3_take_1 : decode cX3_take 1 = .ok (.ifCond .ne 13, 3) := by decide +kernel
theorem dX3_take_4 : decode cX3_take 4 = .ok (.aload_n 0, 1) := by decide +kernel
theorem dX3_take_5 : decode cX3_take 5 = .ok (.iload_n 2, 1) := by decide +kernel
theorem dX3_take_6 : decode cX3_take 6 = .ok (.iload 4, 2) := by decide +kernel
theorem dX3_take_8 : decode cX3_take 8 = .ok (.invokevirtual 35, 3) := by decide +kernel
theorem dX3_take_11 : decode cX3_take 11 = .ok (.goto 36, 3) := by decide +kernel
theorem dX3_take_14 : decode cX3_take 14 = .ok (.iload_n 1, 1) := by decide +kernel
theorem dX3_take_15 : decode cX3_take 15 = .ok (.iconst 1, 1) := by decide +kernel
theorem dX3_take_16 : decode cX3_take 16 = .ok (.if_icmp .ne 11, 3) := by decide +kernel
theorem dX3_take_19 : decode cX3_take 19 = .ok (.aload_n 0, 1) := by decide +kernel
theorem dX3_take_20 : decode cX3_take 20 = .ok (.iload_n 2, 1) := by decide +kernel
theorem dX3_take_21 : decode cX3_take 21 = .ok (.invokevirtual 39, 3) := by decide +kernel
theorem dX3_take_24 : decode cX3_take 24 = .ok (.goto 23, 3) := by decide +kernel
theorem dX3_take_27 : decode cX3_take 27 = .ok (.aload_n 0, 1) := by decide +kernel
theorem dX3_take_28 : decode cX3_take 28 = .ok (.getfield 9, 3) := by decide +kernel
theorem dX3_take_31 : decode cX3_take 31 = .ok (.iload_n 2, 1) := by decide +kernel
theorem dX3_take_32 : decode cX3_take 32 = .ok (.iaload, 1) := by decide +kernel
theorem dX3_take_33 : decode cX3_take 33 = .ok (.iconst 1, 1) := by decide +kernel
theorem dX3_take_34 : decode cX3_take 34 = .ok (.if_icmp .ne 13, 3) := by decide +kernel
theorem dX3_take_37 : decode cX3_take 37 = .ok (.aload_n 0, 1) := by decide +kernel
theorem dX3_take_38 : decode cX3_take 38 = .ok (.getfield 15, 3) := by decide +kernel
theorem dX3_take_41 : decode cX3_take 41 = .ok (.iload_n 2, 1) := by decide +kernel
theorem dX3_take_42 : decode cX3_take 42 = .ok (.dup2, 1) := by decide +kernel
theorem dX3_take_43 : decode cX3_take 43 = .ok (.iaload, 1) := by decide +kernel
theorem dX3_take_44 : decode cX3_take 44 = .ok (.iload_n 3, 1) := by decide +kernel
theorem dX3_take_45 : decode cX3_take 45 = .ok (.iadd, 1) := by decide +kernel
theorem dX3_take_46 : decode cX3_take 46 = .ok (.iastore, 1) := by decide +kernel
theorem dX3_take_47 : decode cX3_take 47 = .ok (.return_, 1) := by decide +kernel
set_option maxRecDepth 20000 in
theorem ggX3_takeRequest_X3_sendAnswer : GoodIn wsX3_takeRequest wsX3_sendAnswer := goodIn_r _ [8, 9, 10, 11, 12, 13, 14, 15, 16, 17, 18, 19, 20, 21, 22, 23, 24, 25, 26, 27, 28, 29, 35, 36, 37, 38, 39, 40, 41, 42, 43, 44, 45, 46, 47, 48] (by decide +kernel) (by decide +kernel)
set_option maxRecDepth 20000 in
theorem gX3_takeRequest_X3_sendAnswer : GoodIn wsX3_takeRequest (wsV RX3 43 RX3 yX3_sendAnswer wsX3_sendAnswer) := goodIn_app (goodIn_of _ (by decide +kernel)) ggX3_takeRequest_X3_sendAnswer
set_option maxRecDepth 20000 in
theorem ggX3_takeRequest_X0_isDue : GoodIn wsX3_takeRequest wsX0_isDue := goodIn_r _ [33, 34, 49, 50, 51, 52] (by decide +kernel) (by decide +kernel)
set_option maxRecDepth 20000 in
theorem gX3_takeRequest_X0_isDue_n46 : GoodIn wsX3_takeRequest (wsX0_isDue) := ggX3_takeRequest_X0_isDue
theorem dX3_takeRequest_0 : decode cX3_takeRequest 0 = .ok (.aload_n 0, 1) := by decide +kernel
theorem dX3_takeRequest_1 : decode cX3_takeRequest 1 = .ok (.getfield 9, 3) := by decide +kernel
theorem dX3_takeRequest_4 : decode cX3_takeRequest 4 = .ok (.iload_n 1, 1) := by decide +kernel
theorem dX3_takeRequest_5 : decode cX3_takeRequest 5 = .ok (.iaload, 1) := by decide +kernel
theorem dX3_takeRequest_6 : decode cX3_takeRequest 6 = .ok (.iconst 2, 1) := by decide +kernel
theorem dX3_takeRequest_7 : decode cX3_takeRequest 7 = .ok (.if_icmp .ne 11, 3) := by decide +kernel
theorem dX3_takeRequest_10 : decode cX3_takeRequest 10 = .ok (.aload_n 0, 1) := by decide +kernel
theorem dX3_takeRequest_11 : decode cX3_takeRequest 11 = .ok (.iload_n 1, 1) := by decide +kernel
theorem dX3_takeRequest_12 : decode cX3_takeRequest 12 = .ok (.invokevirtual 43, 3) := by decide +kernel
theorem dX3_takeRequest_15 : decode cX3_takeRequest 15 = .ok (.goto 38, 3) := by decide +kernel
theorem dX3_takeRequest_18 : decode cX3_takeRequest 18 = .ok (.aload_n 0, 1) := by decide +kernel
theorem dX3_takeRequest_19 : decode cX3_takeRequest 19 = .ok (.getfield 9, 3) := by decide +kernel
theorem dX3_takeRequest_22 : decode cX3_takeRequest 22 = .ok (.iload_n 1, 1) := by decide +kernel
theorem dX3_takeRequest_23 : decode cX3_takeRequest 23 = .ok (.iaload, 1) := by decide +kernel
theorem dX3_takeRequest_24 : decode cX3_takeRequest 24 = .ok (.ifCond .ne 29, 3) := by decide +kernel
theorem dX3_takeRequest_27 : decode cX3_takeRequest 27 = .ok (.aload_n 0, 1) := by decide +kernel
theorem dX3_takeRequest_28 : decode cX3_takeRequest 28 = .ok (.getfield 27, 3) := by decide +kernel
theorem dX3_takeRequest_31 : decode cX3_takeRequest 31 = .ok (.iload_n 1, 1) := by decide +kernel
theorem dX3_takeRequest_32 : decode cX3_takeRequest 32 = .ok (.iload_n 2, 1) := by decide +kernel
theorem dX3_takeRequest_33 : decode cX3_takeRequest 33 = .ok (.invokevirtual 46, 3) := by decide +kernel
theorem dX3_takeRequest_36 : decode cX3_takeRequest 36 = .ok (.ifCond .ne 17, 3) := by decide +kernel
theorem dX3_takeRequest_39 : decode cX3_takeRequest 39 = .ok (.aload_n 0, 1) := by decide +kernel
theorem dX3_takeRequest_40 : decode cX3_takeRequest 40 = .ok (.getfield 9, 3) := by decide +kernel
theorem dX3_takeRequest_43 : decode cX3_takeRequest 43 = .ok (.iload_n 1, 1) := by decide +kernel
theorem dX3_takeRequest_44 : decode cX3_takeRequest 44 = .ok (.iconst 1, 1) := by decide +kernel
theorem dX3_takeRequest_45 : decode cX3_takeRequest 45 = .ok (.iastore, 1) := by decide +kernel
theorem dX3_takeRequest_46 : decode cX3_takeRequest 46 = .ok (.aload_n 0, 1) := by decide +kernel
theorem dX3_takeRequest_47 : decode cX3_takeRequest 47 = .ok (.getfield 15, 3) := by decide +kernel
theorem dX3_takeRequest_50 : decode cX3_takeRequest 50 = .ok (.iload_n 1, 1) := by decide +kernel
theorem dX3_takeRequest_51 : decode cX3_takeRequest 51 = .ok (.iconst 2, 1) := by decide +kernel
theorem dX3_takeRequest_52 : decode cX3_takeRequest 52 = .ok (.iastore, 1) := by decide +kernel
theorem dX3_takeRequest_53 : decode cX3_takeRequest 53 = .ok (.return_, 1) := by decide +kernel
theorem dX3_takeCancellation_0 : decode cX3_takeCancellation 0 = .ok (.aload_n 0, 1) := by decide +kernel
theorem dX3_takeCancellation_1 : decode cX3_takeCancellation 1 = .ok (.getfield 9, 3) := by decide +kernel
theorem dX3_takeCancellation_4 : decode cX3_takeCancellation 4 = .ok (.iload_n 1, 1) := by decide +kernel
theorem dX3_takeCancellation_5 : decode cX3_takeCancellation 5 = .ok (.iaload, 1) := by decide +kernel
theorem dX3_takeCancellation_6 : decode cX3_takeCancellation 6 = .ok (.iconst 2, 1) := by decide +kernel
theorem dX3_takeCancellation_7 : decode cX3_takeCancellation 7 = .ok (.if_icmp .eq 10, 3) := by decide +kernel
theorem dX3_takeCancellation_10 : decode cX3_takeCancellation 10 = .ok (.aload_n 0, 1) := by decide +kernel
theorem dX3_takeCancellation_11 : decode cX3_takeCancellation 11 = .ok (.getfield 9, 3) := by decide +kernel
theorem dX3_takeCancellation_14 : decode cX3_takeCancellation 14 = .ok (.iload_n 1, 1) := by decide +kernel
theorem dX3_takeCancellation_15 : decode cX3_takeCancellation 15 = .ok (.iconst 3, 1) := by decide +kernel
theorem dX3_takeCancellation_16 : decode cX3_takeCancellation 16 = .ok (.iastore, 1) := by decide +kernel
theorem dX3_takeCancellation_17 : decode cX3_takeCancellation 17 = .ok (.return_, 1) := by decide +kernel
set_option maxRecDepth 20000 in
theorem ggX3_closeDueTasks_X0_isDue : GoodIn wsX3_closeDueTasks wsX0_isDue := goodIn_r _ [6, 7, 16, 17, 18, 19] (by decide +kernel) (by decide +kernel)
set_option maxRecDepth 20000 in
theorem gX3_closeDueTasks_X0_isDue_n46 : GoodIn wsX3_closeDueTasks (wsX0_isDue) := ggX3_closeDueTasks_X0_isDue
theorem dX3_closeDueTasks_0 : decode cX3_closeDueTasks 0 = .ok (.iconst 0, 1) := by decide +kernel
theorem dX3_closeDueTasks_1 : decode cX3_closeDueTasks 1 = .ok (.istore_n 2, 1) := by decide +kernel
theorem dX3_closeDueTasks_2 : decode cX3_closeDueTasks 2 = .ok (.iload_n 2, 1) := by decide +kernel
theorem dX3_closeDueTasks_3 : decode cX3_closeDueTasks 3 = .ok (.aload_n 0, 1) := by decide +kernel
theorem dX3_closeDueTasks_4 : decode cX3_closeDueTasks 4 = .ok (.getfield 27, 3) := by decide +kernel
theorem dX3_closeDueTasks_7 : decode cX3_closeDueTasks 7 = .ok (.getfield 52, 3) := by decide +kernel
theorem dX3_closeDueTasks_10 : decode cX3_closeDueTasks 10 = .ok (.if_icmp .ge 38, 3) := by decide +kernel
theorem dX3_closeDueTasks_13 : decode cX3_closeDueTasks 13 = .ok (.aload_n 0, 1) := by decide +kernel
theorem dX3_closeDueTasks_14 : decode cX3_closeDueTasks 14 = .ok (.getfield 9, 3) := by decide +kernel
theorem dX3_closeDueTasks_17 : decode cX3_closeDueTasks 17 = .ok (.iload_n 2, 1) := by decide +kernel
theorem dX3_closeDueTasks_18 : decode cX3_closeDueTasks 18 = .ok (.iaload, 1) := by decide +kernel
theorem dX3_closeDueTasks_19 : decode cX3_closeDueTasks 19 = .ok (.iconst 1, 1) := by decide +kernel
theorem dX3_closeDueTasks_20 : decode cX3_closeDueTasks 20 = .ok (.if_icmp .ne 22, 3) := by decide +kernel
theorem dX3_closeDueTasks_23 : decode cX3_closeDueTasks 23 = .ok (.aload_n 0, 1) := by decide +kernel
theorem dX3_closeDueTasks_24 : decode cX3_closeDueTasks 24 = .ok (.getfield 27, 3) := by decide +kernel
theorem dX3_closeDueTasks_27 : decode cX3_closeDueTasks 27 = .ok (.iload_n 2, 1) := by decide +kernel
theorem dX3_closeDueTasks_28 : decode cX3_closeDueTasks 28 = .ok (.iload_n 1, 1) := by decide +kernel
theorem dX3_closeDueTasks_29 : decode cX3_closeDueTasks 29 = .ok (.invokevirtual 46, 3) := by decide +kernel
theorem dX3_closeDueTasks_32 : decode cX3_closeDueTasks 32 = .ok (.ifCond .eq 10, 3) := by decide +kernel
theorem dX3_closeDueTasks_35 : decode cX3_closeDueTasks 35 = .ok (.aload_n 0, 1) := by decide +kernel
theorem dX3_closeDueTasks_36 : decode cX3_closeDueTasks 36 = .ok (.getfield 9, 3) := by decide +kernel
theorem dX3_closeDueTasks_39 : decode cX3_closeDueTasks 39 = .ok (.iload_n 2, 1) := by decide +kernel
theorem dX3_closeDueTasks_40 : decode cX3_closeDueTasks 40 = .ok (.iconst 3, 1) := by decide +kernel
theorem dX3_closeDueTasks_41 : decode cX3_closeDueTasks 41 = .ok (.iastore, 1) := by decide +kernel
theorem dX3_closeDueTasks_42 : decode cX3_closeDueTasks 42 = .ok (.iinc 2 1, 3) := by decide +kernel
theorem dX3_closeDueTasks_45 : decode cX3_closeDueTasks 45 = .ok (.goto (-43), 3) := by decide +kernel
theorem dX3_closeDueTasks_48 : decode cX3_closeDueTasks 48 = .ok (.return_, 1) := by decide +kernel
set_option maxRecDepth 20000 in
theorem ggX3_step_X3_isItemNext : GoodIn wsX3_step wsX3_isItemNext := goodIn_r _ [5, 6, 7, 52, 53, 54, 55, 56, 57, 58, 59, 60, 61, 62, 63] (by decide +kernel) (by decide +kernel)
set_option maxRecDepth 20000 in
theorem gX3_step_X3_isItemNext : GoodIn wsX3_step (wsV RX3 56 RX3 yX3_isItemNext wsX3_isItemNext) := goodIn_app (goodIn_of _ (by decide +kernel)) ggX3_step_X3_isItemNext
set_option maxRecDepth 20000 in
theorem ggX3_step_X3_sendItem : GoodIn wsX3_step wsX3_sendItem := goodIn_r _ [11, 7, 12, 6, 13, 14, 15, 16, 17, 18, 19, 20, 21, 22, 23, 24, 25, 26, 27, 28, 29, 30, 31, 52, 53, 54, 55, 56, 57, 58, 59, 60, 61, 62, 63, 64, 65, 66, 67, 68, 69] (by decide +kernel) (by decide +kernel)
set_option maxRecDepth 20000 in
theorem gX3_step_X3_sendItem : GoodIn wsX3_step (wsV RX3 60 RX3 yX3_sendItem wsX3_sendItem) := goodIn_app (goodIn_of _ (by decide +kernel)) ggX3_step_X3_sendItem
set_option maxRecDepth 20000 in
theorem ggX3_step_X3_perform : GoodIn wsX3_step wsX3_perform := goodIn_r _ [35, 6, 36, 37, 38, 39, 40, 41, 42, 4, 43, 44, 45, 46, 47, 48, 49, 50, 51, 12, 14, 15, 16, 17, 18, 19, 20, 21, 22, 23, 24, 25, 26, 27, 28, 29, 30, 31, 52, 53, 54, 55, 56, 57, 58, 59, 60, 61, 62, 63, 64, 65, 66, 67, 68, 69] (by decide +kernel) (by decide +kernel)
set_option maxRecDepth 20000 in
theorem gX3_step_X3_perform : GoodIn wsX3_step (wsV RX3 63 RX3 yX3_perform wsX3_perform) := goodIn_app (goodIn_of _ (by decide +kernel)) ggX3_step_X3_perform
theorem dX3_step_0 : decode cX3_step 0 = .ok (.aload_n 0, 1) := by decide +kernel
theorem dX3_step_1 : decode cX3_step 1 = .ok (.iload_n 1, 1) := by decide +kernel
theorem dX3_step_2 : decode cX3_step 2 = .ok (.invokevirtual 56, 3) := by decide +kernel
theorem dX3_step_5 : decode cX3_step 5 = .ok (.ifCond .eq 11, 3) := by decide +kernel
theorem dX3_step_8 : decode cX3_step 8 = .ok (.aload_n 0, 1) := by decide +kernel
theorem dX3_step_9 : decode cX3_step 9 = .ok (.iload_n 1, 1) := by decide +kernel
theorem dX3_step_10 : decode cX3_step 10 = .ok (.invokevirtual 60, 3) := by decide +kernel
theorem dX3_step_13 : decode cX3_step 13 = .ok (.goto 8, 3) := by decide +kernel
theorem dX3_step_16 : decode cX3_step 16 = .ok (.aload_n 0, 1) := by decide +kernel
theorem dX3_step_17 : decode cX3_step 17 = .ok (.iload_n 1, 1) := by decide +kernel
theorem dX3_step_18 : decode cX3_step 18 = .ok (.invokevirtual 63, 3) := by decide +kernel
theorem dX3_step_21 : decode cX3_step 21 = .ok (.return_, 1) := by decide +kernel
theorem dX3_isItemNext_0 : decode cX3_isItemNext 0 = .ok (.aload_n 0, 1) := by decide +kernel
theorem dX3_isItemNext_1 : decode cX3_isItemNext 1 = .ok (.getfield 27, 3) := by decide +kernel
theorem dX3_isItemNext_4 : decode cX3_isItemNext 4 = .ok (.getfield 66, 3) := by decide +kernel
theorem dX3_isItemNext_7 : decode cX3_isItemNext 7 = .ok (.iload_n 1, 1) := by decide +kernel
theorem dX3_isItemNext_8 : decode cX3_isItemNext 8 = .ok (.iaload, 1) := by decide +kernel
theorem dX3_isItemNext_9 : decode cX3_isItemNext 9 = .ok (.iconst 3, 1) := by decide +kernel
theorem dX3_isItemNext_10 : decode cX3_isItemNext 10 = .ok (.if_icmp .ne 25, 3) := by decide +kernel
theorem dX3_isItemNext_13 : decode cX3_isItemNext 13 = .ok (.aload_n 0, 1) := by decide +kernel
theorem dX3_isItemNext_14 : decode cX3_isItemNext 14 = .ok (.getfield 18, 3) := by decide +kernel
theorem dX3_isItemNext_17 : decode cX3_isItemNext 17 = .ok (.iload_n 1, 1) := by decide +kernel
theorem dX3_isItemNext_18 : decode cX3_isItemNext 18 = .ok (.iaload, 1) := by decide +kernel
theorem dX3_isItemNext_19 : decode cX3_isItemNext 19 = .ok (.aload_n 0, 1) := by decide +kernel
theorem dX3_isItemNext_20 : decode cX3_isItemNext 20 = .ok (.getfield 27, 3) := by decide +kernel
theorem dX3_isItemNext_23 : decode cX3_isItemNext 23 = .ok (.getfield 69, 3) := by decide +kernel
theorem dX3_isItemNext_26 : decode cX3_isItemNext 26 = .ok (.iload_n 1, 1) := by decide +kernel
theorem dX3_isItemNext_27 : decode cX3_isItemNext 27 = .ok (.iaload, 1) := by decide +kernel
theorem dX3_isItemNext_28 : decode cX3_isItemNext 28 = .ok (.if_icmp .ge 7, 3) := by decide +kernel
theorem dX3_isItemNext_31 : decode cX3_isItemNext 31 = .ok (.iconst 1, 1) := by decide +kernel
theorem dX3_isItemNext_32 : decode cX3_isItemNext 32 = .ok (.goto 4, 3) := by decide +kernel
theorem dX3_isItemNext_35 : decode cX3_isItemNext 35 = .ok (.iconst 0, 1) := by decide +kernel
theorem dX3_isItemNext_36 : decode cX3_isItemNext 36 = .ok (.ireturn, 1) := by decide +kernel
set_option maxRecDepth 20000 in
theorem ggX3_sendItem_X2_send : GoodIn wsX3_sendItem wsX2_send := goodIn_r _ [8, 9, 10, 11, 12, 13, 14, 15, 16, 6, 17, 18, 19, 20, 21, 22, 35, 36, 37, 38, 39, 40] (by decide +kernel) (by decide +kernel)
set_option maxRecDepth 20000 in
theorem gX3_sendItem_X2_send_n72 : GoodIn wsX3_sendItem (wsX2_send) := ggX3_sendItem_X2_send
theorem dX3_sendItem_0 : decode cX3_sendItem 0 = .ok (.aload_n 0, 1) := by decide +kernel
theorem dX3_sendItem_1 : decode cX3_sendItem 1 = .ok (.getfield 18, 3) := by decide +kernel
theorem dX3_sendItem_4 : decode cX3_sendItem 4 = .ok (.iload_n 1, 1) := by decide +kernel
theorem dX3_sendItem_5 : decode cX3_sendItem 5 = .ok (.iaload, 1) := by decide +kernel
theorem dX3_sendItem_6 : decode cX3_sendItem 6 = .ok (.istore_n 2, 1) := by decide +kernel
theorem dX3_sendItem_7 : decode cX3_sendItem 7 = .ok (.aload_n 0, 1) := by decide +kernel
theorem dX3_sendItem_8 : decode cX3_sendItem 8 = .ok (.getfield 31, 3) := by decide +kernel
theorem dX3_sendItem_11 : decode cX3_sendItem 11 = .ok (.iconst 4, 1) := by decide +kernel
theorem dX3_sendItem_12 : decode cX3_sendItem 12 = .ok (.iload_n 1, 1) := by decide +kernel
theorem dX3_sendItem_13 : decode cX3_sendItem 13 = .ok (.iload_n 2, 1) := by decide +kernel
theorem dX3_sendItem_14 : decode cX3_sendItem 14 = .ok (.aload_n 0, 1) := by decide +kernel
theorem dX3_sendItem_15 : decode cX3_sendItem 15 = .ok (.getfield 27, 3) := by decide +kernel
theorem dX3_sendItem_18 : decode cX3_sendItem 18 = .ok (.getfield 69, 3) := by decide +kernel
theorem dX3_sendItem_21 : decode cX3_sendItem 21 = .ok (.iload_n 1, 1) := by decide +kernel
theorem dX3_sendItem_22 : decode cX3_sendItem 22 = .ok (.iaload, 1) := by decide +kernel
theorem dX3_sendItem_23 : decode cX3_sendItem 23 = .ok (.iload_n 2, 1) := by decide +kernel
theorem dX3_sendItem_24 : decode cX3_sendItem 24 = .ok (.isub, 1) := by decide +kernel
theorem dX3_sendItem_25 : decode cX3_sendItem 25 = .ok (.invokevirtual 72, 3) := by decide +kernel
theorem dX3_sendItem_28 : decode cX3_sendItem 28 = .ok (.aload_n 0, 1) := by decide +kernel
theorem dX3_sendItem_29 : decode cX3_sendItem 29 = .ok (.getfield 15, 3) := by decide +kernel
theorem dX3_sendItem_32 : decode cX3_sendItem 32 = .ok (.iload_n 1, 1) := by decide +kernel
theorem dX3_sendItem_33 : decode cX3_sendItem 33 = .ok (.dup2, 1) := by decide +kernel
theorem dX3_sendItem_34 : decode cX3_sendItem 34 = .ok (.iaload, 1) := by decide +kernel
theorem dX3_sendItem_35 : decode cX3_sendItem 35 = .ok (.iconst 1, 1) := by decide +kernel
theorem dX3_sendItem_36 : decode cX3_sendItem 36 = .ok (.isub, 1) := by decide +kernel
theorem dX3_sendItem_37 : decode cX3_sendItem 37 = .ok (.iastore, 1) := by decide +kernel
theorem dX3_sendItem_38 : decode cX3_sendItem 38 = .ok (.aload_n 0, 1) := by decide +kernel
theorem dX3_sendItem_39 : decode cX3_sendItem 39 = .ok (.getfield 18, 3) := by decide +kernel
theorem dX3_sendItem_42 : decode cX3_sendItem 42 = .ok (.iload_n 1, 1) := by decide +kernel
theorem dX3_sendItem_43 : decode cX3_sendItem 43 = .ok (.dup2, 1) := by decide +kernel
theorem dX3_sendItem_44 : decode cX3_sendItem 44 = .ok (.iaload, 1) := by decide +kernel
theorem dX3_sendItem_45 : decode cX3_sendItem 45 = .ok (.iconst 1, 1) := by decide +kernel
theorem dX3_sendItem_46 : decode cX3_sendItem 46 = .ok (.iadd, 1) := by decide +kernel
theorem dX3_sendItem_47 : decode cX3_sendItem 47 = .ok (.iastore, 1) := by decide +kernel
theorem dX3_sendItem_48 : decode cX3_sendItem 48 = .ok (.return_, 1) := by decide +kernel
set_option maxRecDepth 20000 in
theorem ggX3_perform_X3_answerOf : GoodIn wsX3_perform wsX3_answerOf := goodIn_r _ [10, 2, 11, 12, 13, 14, 38, 39, 40, 41, 42, 43, 44, 45] (by decide +kernel) (by decide +kernel)
set_option maxRecDepth 20000 in
theorem gX3_perform_X3_answerOf : GoodIn wsX3_perform (wsV RX3 78 RX3 yX3_answerOf wsX3_answerOf) := goodIn_app (goodIn_of _ (by decide +kernel)) ggX3_perform_X3_answerOf
set_option maxRecDepth 20000 in
theorem ggX3_perform_X3_sendAnswer : GoodIn wsX3_perform wsX3_sendAnswer := goodIn_r _ [18, 19, 3, 4, 20, 21, 22, 23, 24, 25, 26, 27, 28, 29, 30, 31, 32, 33, 34, 35, 36, 37, 38, 39, 40, 41, 42, 43, 44, 45, 50, 51, 52, 53, 54, 55] (by decide +kernel) (by decide +kernel)
set_option maxRecDepth 20000 in
theorem gX3_perform_X3_sendAnswer : GoodIn wsX3_perform (wsV RX3 43 RX3 yX3_sendAnswer wsX3_sendAnswer) := goodIn_app (goodIn_of _ (by decide +kernel)) ggX3_perform_X3_sendAnswer
theorem dX3_perform_0 : decode cX3_perform 0 = .ok (.aload_n 0, 1) := by decide +kernel
theorem dX3_perform_1 : decode cX3_perform 1 = .ok (.getfield 27, 3) := by decide +kernel
theorem dX3_perform_4 : decode cX3_perform 4 = .ok (.getfield 66, 3) := by decide +kernel
theorem dX3_perform_7 : decode cX3_perform 7 = .ok (.iload_n 1, 1) := by decide +kernel
theorem dX3_perform_8 : decode cX3_perform 8 = .ok (.iaload, 1) := by decide +kernel
theorem dX3_perform_9 : decode cX3_perform 9 = .ok (.istore_n 2, 1) := by decide +kernel
theorem dX3_perform_10 : decode cX3_perform 10 = .ok (.aload_n 0, 1) := by decide +kernel
theorem dX3_perform_11 : decode cX3_perform 11 = .ok (.iload_n 2, 1) := by decide +kernel
theorem dX3_perform_12 : decode cX3_perform 12 = .ok (.aload_n 0, 1) := by decide +kernel
theorem dX3_perform_13 : decode cX3_perform 13 = .ok (.getfield 27, 3) := by decide +kernel
theorem dX3_perform_16 : decode cX3_perform 16 = .ok (.getfield 69, 3) := by decide +kernel
theorem dX3_perform_19 : decode cX3_perform 19 = .ok (.iload_n 1, 1) := by decide +kernel
theorem dX3_perform_20 : decode cX3_perform 20 = .ok (.iaload, 1) := by decide +kernel
theorem dX3_perform_21 : decode cX3_perform 21 = .ok (.invokevirtual 78, 3) := by decide +kernel
theorem dX3_perform_24 : decode cX3_perform 24 = .ok (.istore_n 3, 1) := by decide +kernel
theorem dX3_perform_25 : decode cX3_perform 25 = .ok (.iload_n 2, 1) := by decide +kernel
theorem dX3_perform_26 : decode cX3_perform 26 = .ok (.iconst 1, 1) := by decide +kernel
theorem dX3_perform_27 : decode cX3_perform 27 = .ok (.if_icmp .ne 8, 3) := by decide +kernel
theorem dX3_perform_30 : decode cX3_perform 30 = .ok (.aload_n 0, 1) := by decide +kernel
theorem dX3_perform_31 : decode cX3_perform 31 = .ok (.iload_n 3, 1) := by decide +kernel
theorem dX3_perform_32 : decode cX3_perform 32 = .ok (.putfield 82, 3) := by decide +kernel
theorem dX3_perform_35 : decode cX3_perform 35 = .ok (.aload_n 0, 1) := by decide +kernel
theorem dX3_perform_36 : decode cX3_perform 36 = .ok (.getfield 21, 3) := by decide +kernel
theorem dX3_perform_39 : decode cX3_perform 39 = .ok (.iload_n 1, 1) := by decide +kernel
theorem dX3_perform_40 : decode cX3_perform 40 = .ok (.iload_n 2, 1) := by decide +kernel
theorem dX3_perform_41 : decode cX3_perform 41 = .ok (.iconst 2, 1) := by decide +kernel
theorem dX3_perform_42 : decode cX3_perform 42 = .ok (.if_icmp .ne 7, 3) := by decide +kernel
theorem dX3_perform_45 : decode cX3_perform 45 = .ok (.iconst 3, 1) := by decide +kernel
theorem dX3_perform_46 : decode cX3_perform 46 = .ok (.goto 4, 3) := by decide +kernel
theorem dX3_perform_49 : decode cX3_perform 49 = .ok (.iconst 0, 1) := by decide +kernel
theorem dX3_perform_50 : decode cX3_perform 50 = .ok (.iastore, 1) := by decide +kernel
theorem dX3_perform_51 : decode cX3_perform 51 = .ok (.aload_n 0, 1) := by decide +kernel
theorem dX3_perform_52 : decode cX3_perform 52 = .ok (.getfield 24, 3) := by decide +kernel
theorem dX3_perform_55 : decode cX3_perform 55 = .ok (.iload_n 1, 1) := by decide +kernel
theorem dX3_perform_56 : decode cX3_perform 56 = .ok (.iload_n 3, 1) := by decide +kernel
theorem dX3_perform_57 : decode cX3_perform 57 = .ok (.iastore, 1) := by decide +kernel
theorem dX3_perform_58 : decode cX3_perform 58 = .ok (.aload_n 0, 1) := by decide +kernel
theorem dX3_perform_59 : decode cX3_perform 59 = .ok (.getfield 9, 3) := by decide +kernel
theorem dX3_perform_62 : decode cX3_perform 62 = .ok (.iload_n 1, 1) := by decide +kernel
theorem dX3_perform_63 : decode cX3_perform 63 = .ok (.iconst 2, 1) := by decide +kernel
theorem dX3_perform_64 : decode cX3_perform 64 = .ok (.iastore, 1) := by decide +kernel
theorem dX3_perform_65 : decode cX3_perform 65 = .ok (.aload_n 0, 1) := by decide +kernel
theorem dX3_perform_66 : decode cX3_perform 66 = .ok (.iload_n 1, 1) := by decide +kernel
theorem dX3_perform_67 : decode cX3_perform 67 = .ok (.invokevirtual 43, 3) := by decide +kernel
theorem dX3_perform_70 : decode cX3_perform 70 = .ok (.return_, 1) := by decide +kernel
theorem dX3_answerOf_0 : decode cX3_answerOf 0 = .ok (.iload_n 1, 1) := by decide +kernel
theorem dX3_answerOf_1 : decode cX3_answerOf 1 = .ok (.tableswitch 48 0 3 #[31, 35, 48, 42], 31) := by decide +kernel
theorem dX3_answerOf_32 : decode cX3_answerOf 32 = .ok (.iload_n 2, 1) := by decide +kernel
theorem dX3_answerOf_33 : decode cX3_answerOf 33 = .ok (.iload_n 2, 1) := by decide +kernel
theorem dX3_answerOf_34 : decode cX3_answerOf 34 = .ok (.imul, 1) := by decide +kernel
theorem dX3_answerOf_35 : decode cX3_answerOf 35 = .ok (.ireturn, 1) := by decide +kernel
theorem dX3_answerOf_36 : decode cX3_answerOf 36 = .ok (.aload_n 0, 1) := by decide +kernel
theorem dX3_answerOf_37 : decode cX3_answerOf 37 = .ok (.getfield 82, 3) := by decide +kernel
theorem dX3_answerOf_40 : decode cX3_answerOf 40 = .ok (.iload_n 2, 1) := by decide +kernel
theorem dX3_answerOf_41 : decode cX3_answerOf 41 = .ok (.iadd, 1) := by decide +kernel
theorem dX3_answerOf_42 : decode cX3_answerOf 42 = .ok (.ireturn, 1) := by decide +kernel
theorem dX3_answerOf_43 : decode cX3_answerOf 43 = .ok (.iload_n 2, 1) := by decide +kernel
theorem dX3_answerOf_44 : decode cX3_answerOf 44 = .ok (.iconst 0, 1) := by decide +kernel
theorem dX3_answerOf_45 : decode cX3_answerOf 45 = .ok (.invokestatic 85, 3) := by decide +kernel
theorem dX3_answerOf_48 : decode cX3_answerOf 48 = .ok (.ireturn, 1) := by decide +kernel
theorem dX3_answerOf_49 : decode cX3_answerOf 49 = .ok (.iconst 0, 1) := by decide +kernel
theorem dX3_answerOf_50 : decode cX3_answerOf 50 = .ok (.ireturn, 1) := by decide +kernel
set_option maxRecDepth 20000 in
theorem ggX3_sendAnswer_X2_send : GoodIn wsX3_sendAnswer wsX2_send := goodIn_r _ [7, 8, 9, 10, 11, 12, 13, 14, 15, 5, 16, 17, 18, 19, 20, 21, 30, 31, 32, 33, 34, 35] (by decide +kernel) (by decide +kernel)
set_option maxRecDepth 20000 in
theorem gX3_sendAnswer_X2_send_n72 : GoodIn wsX3_sendAnswer (wsX2_send) := ggX3_sendAnswer_X2_send
theorem dX3_sendAnswer_0 : decode cX3_sendAnswer 0 = .ok (.aload_n 0, 1) := by decide +kernel
theorem dX3_sendAnswer_1 : decode cX3_sendAnswer 1 = .ok (.getfield 31, 3) := by decide +kernel
theorem dX3_sendAnswer_4 : decode cX3_sendAnswer 4 = .ok (.iconst 3, 1) := by decide +kernel
theorem dX3_sendAnswer_5 : decode cX3_sendAnswer 5 = .ok (.iload_n 1, 1) := by decide +kernel
theorem dX3_sendAnswer_6 : decode cX3_sendAnswer 6 = .ok (.aload_n 0, 1) := by decide +kernel
theorem dX3_sendAnswer_7 : decode cX3_sendAnswer 7 = .ok (.getfield 21, 3) := by decide +kernel
theorem dX3_sendAnswer_10 : decode cX3_sendAnswer 10 = .ok (.iload_n 1, 1) := by decide +kernel
theorem dX3_sendAnswer_11 : decode cX3_sendAnswer 11 = .ok (.iaload, 1) := by decide +kernel
theorem dX3_sendAnswer_12 : decode cX3_sendAnswer 12 = .ok (.aload_n 0, 1) := by decide +kernel
theorem dX3_sendAnswer_13 : decode cX3_sendAnswer 13 = .ok (.getfield 24, 3) := by decide +kernel
theorem dX3_sendAnswer_16 : decode cX3_sendAnswer 16 = .ok (.iload_n 1, 1) := by decide +kernel
theorem dX3_sendAnswer_17 : decode cX3_sendAnswer 17 = .ok (.iaload, 1) := by decide +kernel
theorem dX3_sendAnswer_18 : decode cX3_sendAnswer 18 = .ok (.invokevirtual 72, 3) := by decide +kernel
theorem dX3_sendAnswer_21 : decode cX3_sendAnswer 21 = .ok (.return_, 1) := by decide +kernel
theorem dJ9_floorMod_7cf53_0 : decode cJ9_floorMod_7cf53 0 = .ok (.iload_n 0, 1) := by decide +kernel
theorem dJ9_floorMod_7cf53_1 : decode cJ9_floorMod_7cf53 1 = .ok (.iload_n 1, 1) := by decide +kernel
theorem dJ9_floorMod_7cf53_2 : decode cJ9_floorMod_7cf53 2 = .ok (.irem, 1) := by decide +kernel
theorem dJ9_floorMod_7cf53_3 : decode cJ9_floorMod_7cf53 3 = .ok (.istore_n 2, 1) := by decide +kernel
theorem dJ9_floorMod_7cf53_4 : decode cJ9_floorMod_7cf53 4 = .ok (.iload_n 0, 1) := by decide +kernel
theorem dJ9_floorMod_7cf53_5 : decode cJ9_floorMod_7cf53 5 = .ok (.iload_n 1, 1) := by decide +kernel
theorem dJ9_floorMod_7cf53_6 : decode cJ9_floorMod_7cf53 6 = .ok (.ixor, 1) := by decide +kernel
theorem dJ9_floorMod_7cf53_7 : decode cJ9_floorMod_7cf53 7 = .ok (.ifCond .ge 11, 3) := by decide +kernel
theorem dJ9_floorMod_7cf53_10 : decode cJ9_floorMod_7cf53 10 = .ok (.iload_n 2, 1) := by decide +kernel
theorem dJ9_floorMod_7cf53_11 : decode cJ9_floorMod_7cf53 11 = .ok (.ifCond .eq 7, 3) := by decide +kernel
theorem dJ9_floorMod_7cf53_14 : decode cJ9_floorMod_7cf53 14 = .ok (.iload_n 2, 1) := by decide +kernel
theorem dJ9_floorMod_7cf53_15 : decode cJ9_floorMod_7cf53 15 = .ok (.iload_n 1, 1) := by decide +kernel
theorem dJ9_floorMod_7cf53_16 : decode cJ9_floorMod_7cf53 16 = .ok (.iadd, 1) := by decide +kernel
theorem dJ9_floorMod_7cf53_17 : decode cJ9_floorMod_7cf53 17 = .ok (.ireturn, 1) := by decide +kernel
theorem dJ9_floorMod_7cf53_18 : decode cJ9_floorMod_7cf53 18 = .ok (.iload_n 2, 1) := by decide +kernel
theorem dJ9_floorMod_7cf53_19 : decode cJ9_floorMod_7cf53 19 = .ok (.ireturn, 1) := by decide +kernel
theorem dJ9_max_7cf53_0 : decode cJ9_max_7cf53 0 = .ok (.iload_n 0, 1) := by decide +kernel
theorem dJ9_max_7cf53_1 : decode cJ9_max_7cf53 1 = .ok (.iload_n 1, 1) := by decide +kernel
theorem dJ9_max_7cf53_2 : decode cJ9_max_7cf53 2 = .ok (.if_icmp .lt 7, 3) := by decide +kernel
theorem dJ9_max_7cf53_5 : decode cJ9_max_7cf53 5 = .ok (.iload_n 0, 1) := by decide +kernel
theorem dJ9_max_7cf53_6 : decode cJ9_max_7cf53 6 = .ok (.goto 4, 3) := by decide +kernel
theorem dJ9_max_7cf53_9 : decode cJ9_max_7cf53 9 = .ok (.iload_n 1, 1) := by decide +kernel
theorem dJ9_max_7cf53_10 : decode cJ9_max_7cf53 10 = .ok (.ireturn, 1) := by decide +kernel
theorem dJ9_min_7cf53_0 : decode cJ9_min_7cf53 0 = .ok (.iload_n 0, 1) := by decide +kernel
theorem dJ9_min_7cf53_1 : decode cJ9_min_7cf53 1 = .ok (.iload_n 1, 1) := by decide +kernel
theorem dJ9_min_7cf53_2 : decode cJ9_min_7cf53 2 = .ok (.if_icmp .gt 7, 3) := by decide +kernel
theorem dJ9_min_7cf53_5 : decode cJ9_min_7cf53 5 = .ok (.iload_n 0, 1) := by decide +kernel
theorem dJ9_min_7cf53_6 : decode cJ9_min_7cf53 6 = .ok (.goto 4, 3) := by decide +kernel
theorem dJ9_min_7cf53_9 : decode cJ9_min_7cf53 9 = .ok (.iload_n 1, 1) := by decide +kernel
theorem dJ9_min_7cf53_10 : decode cJ9_min_7cf53 10 = .ok (.ireturn, 1) := by decide +kernel
abbrev vwCl : List vw_C := [(RX0, TX0, 4), (RX1, TX1, 10), (RX2, TX2, 6), (RX3, TX3, 8), (RX4, TX4, 6)]
