theorem dX5_init_0 : decode cX5_init 0 = .ok (.aload_n 0, 1) := by decide +kernel
theorem dX5_init_1 : decode cX5_init 1 = .ok (.invokespecial 1, 3) := by decide +kernel
theorem dX5_init_4 : decode cX5_init 4 = .ok (.aload_n 0, 1) := by decide +kernel
theorem dX5_init_5 : decode cX5_init 5 = .ok (.bipush 100, 2) := by decide +kernel
theorem dX5_init_7 : decode cX5_init 7 = .ok (.putfield 7, 3) := by decide +kernel
theorem dX5_init_10 : decode cX5_init 10 = .ok (.aload_n 0, 1) := by decide +kernel
theorem dX5_init_11 : decode cX5_init 11 = .ok (.bipush 40, 2) := by decide +kernel
theorem dX5_init_13 : decode cX5_init 13 = .ok (.newarray .int, 2) := by decide +kernel
theorem dX5_init_15 : decode cX5_init 15 = .ok (.putfield 13, 3) := by decide +kernel
theorem dX5_init_18 : decode cX5_init 18 = .ok (.aload_n 0, 1) := by decide +kernel
theorem dX5_init_19 : decode cX5_init 19 = .ok (.bipush 40, 2) := by decide +kernel
theorem dX5_init_21 : decode cX5_init 21 = .ok (.newarray .int, 2) := by decide +kernel
theorem dX5_init_23 : decode cX5_init 23 = .ok (.putfield 17, 3) := by decide +kernel
theorem dX5_init_26 : decode cX5_init 26 = .ok (.aload_n 0, 1) := by decide +kernel
theorem dX5_init_27 : decode cX5_init 27 = .ok (.bipush 40, 2) := by decide +kernel
theorem dX5_init_29 : decode cX5_init 29 = .ok (.newarray .int, 2) := by decide +kernel
theorem dX5_init_31 : decode cX5_init 31 = .ok (.putfield 20, 3) := by decide +kernel
theorem dX5_init_34 : decode cX5_init 34 = .ok (.aload_n 0, 1) := by decide +kernel
theorem dX5_init_35 : decode cX5_init 35 = .ok (.bipush 40, 2) := by decide +kernel
theorem dX5_init_37 : decode cX5_init 37 = .ok (.newarray .int, 2) := by decide +kernel
theorem dX5_init_39 : decode cX5_init 39 = .ok (.putfield 23, 3) := by decide +kernel
theorem dX5_init_42 : decode cX5_init 42 = .ok (.aload_n 0, 1) := by decide +kernel
theorem dX5_init_43 : decode cX5_init 43 = .ok (.bipush 40, 2) := by decide +kernel
theorem dX5_init_45 : decode cX5_init 45 = .ok (.newarray .int, 2) := by decide +kernel
theorem dX5_init_47 : decode cX5_init 47 = .ok (.putfield 26, 3) := by decide +kernel
theorem dX5_init_50 : decode cX5_init 50 = .ok (.aload_n 0, 1) := by decide +kernel
theorem dX5_init_51 : decode cX5_init 51 = .ok (.bipush 40, 2) := by decide +kernel
theorem dX5_init_53 : decode cX5_init 53 = .ok (.newarray .int, 2) := by decide +kernel
theorem dX5_init_55 : decode cX5_init 55 = .ok (.putfield 29, 3) := by decide +kernel
theorem dX5_init_58 : decode cX5_init 58 = .ok (.aload_n 0, 1) := by decide +kernel
theorem dX5_init_59 : decode cX5_init 59 = .ok (.bipush 40, 2) := by decide +kernel
theorem dX5_init_61 : decode cX5_init 61 = .ok (.newarray .int, 2) := by decide +kernel
theorem dX5_init_63 : decode cX5_init 63 = .ok (.putfield 32, 3) := by decide +kernel
theorem dX5_init_66 : decode cX5_init 66 = .ok (.aload_n 0, 1) := by decide +kernel
theorem dX5_init_67 : decode cX5_init 67 = .ok (.bipush 40, 2) := by decide +kernel
theorem dX5_init_69 : decode cX5_init 69 = .ok (.newarray .int, 2) := by decide +kernel
theorem dX5_init_71 : decode cX5_init 71 = .ok (.putfield 35, 3) := by decide +kernel
theorem dX5_init_74 : decode cX5_init 74 = .ok (.aload_n 0, 1) := by decide +kernel
theorem dX5_init_75 : decode cX5_init 75 = .ok (.bipush 40, 2) := by decide +kernel
theorem dX5_init_77 : decode cX5_init 77 = .ok (.newarray .int, 2) := by decide +kernel
theorem dX5_init_79 : decode cX5_init 79 = .ok (.putfield 38, 3) := by decide +kernel
theorem dX5_init_82 : decode cX5_init 82 = .ok (.aload_n 0, 1) := by decide +kernel
theorem dX5_init_83 : decode cX5_init 83 = .ok (.bipush 40, 2) := by decide +kernel
theorem dX5_init_85 : decode cX5_init 85 = .ok (.newarray .int, 2) := by decide +kernel
theorem dX5_init_87 : decode cX5_init 87 = .ok (.putfield 41, 3) := by decide +kernel
theorem dX5_init_90 : decode cX5_init 90 = .ok (.aload_n 0, 1) := by decide +kernel
theorem dX5_init_91 : decode cX5_init 91 = .ok (.bipush 40, 2) := by decide +kernel
theorem dX5_init_93 : decode cX5_init 93 = .ok (.newarray .int, 2) := by decide +kernel
theorem dX5_init_95 : decode cX5_init 95 = .ok (.putfield 44, 3) := by decide +kernel
theorem dX5_init_98 : decode cX5_init 98 = .ok (.aload_n 0, 1) := by decide +kernel
theorem dX5_init_99 : decode cX5_init 99 = .ok (.bipush 40, 2) := by decide +kernel
theorem dX5_init_101 : decode cX5_init 101 = .ok (.newarray .int, 2) := by decide +kernel
theorem dX5_init_103 : decode cX5_init 103 = .ok (.putfield 47, 3) := by decide +kernel
theorem dX5_init_106 : decode cX5_init 106 = .ok (.aload_n 0, 1) := by decide +kernel
theorem dX5_init_107 : decode cX5_init 107 = .ok (.bipush 40, 2) := by decide +kernel
theorem dX5_init_109 : decode cX5_init 109 = .ok (.newarray .int, 2) := by decide +kernel
theorem dX5_init_111 : decode cX5_init 111 = .ok (.putfield 50, 3) := by decide +kernel
theorem dX5_init_114 : decode cX5_init 114 = .ok (.aload_n 0, 1) := by decide +kernel
theorem dX5_init_115 : decode cX5_init 115 = .ok (.bipush 40, 2) := by decide +kernel
theorem dX5_init_117 : decode cX5_init 117 = .ok (.newarray .int, 2) := by decide +kernel
theorem dX5_init_119 : decode cX5_init 119 = .ok (.putfield 53, 3) := by decide +kernel
theorem dX5_init_122 : decode cX5_init 122 = .ok (.aload_n 0, 1) := by decide +kernel
theorem dX5_init_123 : decode cX5_init 123 = .ok (.bipush 40, 2) := by decide +kernel
theorem dX5_init_125 : decode cX5_init 125 = .ok (.newarray .int, 2) := by decide +kernel
theorem dX5_init_127 : decode cX5_init 127 = .ok (.putfield 56, 3) := by decide +kernel
theorem dX5_init_130 : decode cX5_init 130 = .ok (.aload_n 0, 1) := by decide +kernel
theorem dX5_init_131 : decode cX5_init 131 = .ok (.iconst 2, 1) := by decide +kernel
theorem dX5_init_132 : decode cX5_init 132 = .ok (.newarray .int, 2) := by decide +kernel
theorem dX5_init_134 : decode cX5_init 134 = .ok (.putfield 59, 3) := by decide +kernel
theorem dX5_init_137 : decode cX5_init 137 = .ok (.aload_n 0, 1) := by decide +kernel
theorem dX5_init_138 : decode cX5_init 138 = .ok (.bipush 80, 2) := by decide +kernel
theorem dX5_init_140 : decode cX5_init 140 = .ok (.newarray .int, 2) := by decide +kernel
theorem dX5_init_142 : decode cX5_init 142 = .ok (.putfield 62, 3) := by decide +kernel
theorem dX5_init_145 : decode cX5_init 145 = .ok (.aload_n 0, 1) := by decide +kernel
theorem dX5_init_146 : decode cX5_init 146 = .ok (.bipush 80, 2) := by decide +kernel
theorem dX5_init_148 : decode cX5_init 148 = .ok (.newarray .int, 2) := by decide +kernel
theorem dX5_init_150 : decode cX5_init 150 = .ok (.putfield 65, 3) := by decide +kernel
theorem dX5_init_153 : decode cX5_init 153 = .ok (.aload_n 0, 1) := by decide +kernel
theorem dX5_init_154 : decode cX5_init 154 = .ok (.bipush 80, 2) := by decide +kernel
theorem dX5_init_156 : decode cX5_init 156 = .ok (.newarray .int, 2) := by decide +kernel
theorem dX5_init_158 : decode cX5_init 158 = .ok (.putfield 68, 3) := by decide +kernel
theorem dX5_init_161 : decode cX5_init 161 = .ok (.aload_n 0, 1) := by decide +kernel
theorem dX5_init_162 : decode cX5_init 162 = .ok (.bipush 80, 2) := by decide +kernel
theorem dX5_init_164 : decode cX5_init 164 = .ok (.newarray .int, 2) := by decide +kernel
theorem dX5_init_166 : decode cX5_init 166 = .ok (.putfield 71, 3) := by decide +kernel
theorem dX5_init_169 : decode cX5_init 169 = .ok (.aload_n 0, 1) := by decide +kernel
theorem dX5_init_170 : decode cX5_init 170 = .ok (.iconst 0, 1) := by decide +kernel
theorem dX5_init_171 : decode cX5_init 171 = .ok (.putfield 74, 3) := by decide +kernel
theorem dX5_init_174 : decode cX5_init 174 = .ok (.return_, 1) := by decide +kernel
theorem dX5_thrown_0 : decode cX5_thrown 0 = .ok (.aload_n 0, 1) := by decide +kernel
theorem dX5_thrown_1 : decode cX5_thrown 1 = .ok (.getfield 74, 3) := by decide +kernel
theorem dX5_thrown_4 : decode cX5_thrown 4 = .ok (.ireturn, 1) := by decide +kernel
theorem dX5_fails_0 : decode cX5_fails 0 = .ok (.aload_n 0, 1) := by decide +kernel
theorem dX5_fails_1 : decode cX5_fails 1 = .ok (.iload_n 1, 1) := by decide +kernel
theorem dX5_fails_2 : decode cX5_fails 2 = .ok (.putfield 74, 3) := by decide +kernel
theorem dX5_fails_5 : decode cX5_fails 5 = .ok (.iconst 0, 1) := by decide +kernel
theorem dX5_fails_6 : decode cX5_fails 6 = .ok (.ireturn, 1) := by decide +kernel
theorem dX5_in_0 : decode cX5_in 0 = .ok (.iload_n 0, 1) := by decide +kernel
theorem dX5_in_1 : decode cX5_in 1 = .ok (.iload_n 1, 1) := by decide +kernel
theorem dX5_in_2 : decode cX5_in 2 = .ok (.if_icmp .lt 12, 3) := by decide +kernel
theorem dX5_in_5 : decode cX5_in 5 = .ok (.iload_n 0, 1) := by decide +kernel
theorem dX5_in_6 : decode cX5_in 6 = .ok (.iload_n 2, 1) := by decide +kernel
theorem dX5_in_7 : decode cX5_in 7 = .ok (.if_icmp .gt 7, 3) := by decide +kernel
theorem dX5_in_10 : decode cX5_in 10 = .ok (.iconst 1, 1) := by decide +kernel
theorem dX5_in_11 : decode cX5_in 11 = .ok (.goto 4, 3) := by decide +kernel
theorem dX5_in_14 : decode cX5_in 14 = .ok (.iconst 0, 1) := by decide +kernel
theorem dX5_in_15 : decode cX5_in 15 = .ok (.ireturn, 1) := by decide +kernel
set_option maxRecDepth 20000 in
theorem ggX5_isCall_X5_in : GoodIn wsX5_isCall wsX5_in := goodIn_r _ [5] (by decide +kernel) (by decide +kernel)
set_option maxRecDepth 20000 in
theorem gX5_isCall_X5_in : GoodIn wsX5_isCall (va_wsS RX5 80 yX5_in wsX5_in) := goodIn_app (goodIn_of _ (by decide +kernel)) ggX5_isCall_X5_in
theorem dX5_isCall_0 : decode cX5_isCall 0 = .ok (.iload_n 1, 1) := by decide +kernel
theorem dX5_isCall_1 : decode cX5_isCall 1 = .ok (.iconst 0, 1) := by decide +kernel
theorem dX5_isCall_2 : decode cX5_isCall 2 = .ok (.aload_n 0, 1) := by decide +kernel
theorem dX5_isCall_3 : decode cX5_isCall 3 = .ok (.getfield 77, 3) := by decide +kernel
theorem dX5_isCall_6 : decode cX5_isCall 6 = .ok (.iconst 1, 1) := by decide +kernel
theorem dX5_isCall_7 : decode cX5_isCall 7 = .ok (.isub, 1) := by decide +kernel
theorem dX5_isCall_8 : decode cX5_isCall 8 = .ok (.invokestatic 80, 3) := by decide +kernel
theorem dX5_isCall_11 : decode cX5_isCall 11 = .ok (.ireturn, 1) := by decide +kernel
theorem dX5_sends_0 : decode cX5_sends 0 = .ok (.aload_n 0, 1) := by decide +kernel
theorem dX5_sends_1 : decode cX5_sends 1 = .ok (.getfield 59, 3) := by decide +kernel
theorem dX5_sends_4 : decode cX5_sends 4 = .ok (.iload_n 1, 1) := by decide +kernel
theorem dX5_sends_5 : decode cX5_sends 5 = .ok (.iaload, 1) := by decide +kernel
theorem dX5_sends_6 : decode cX5_sends 6 = .ok (.istore 6, 2) := by decide +kernel
theorem dX5_sends_8 : decode cX5_sends 8 = .ok (.iload 6, 2) := by decide +kernel
theorem dX5_sends_10 : decode cX5_sends 10 = .ok (.bipush 40, 2) := by decide +kernel
theorem dX5_sends_12 : decode cX5_sends 12 = .ok (.if_icmp .ge 56, 3) := by decide +kernel
theorem dX5_sends_15 : decode cX5_sends 15 = .ok (.bipush 40, 2) := by decide +kernel
theorem dX5_sends_17 : decode cX5_sends 17 = .ok (.iload_n 1, 1) := by decide +kernel
theorem dX5_sends_18 : decode cX5_sends 18 = .ok (.imul, 1) := by decide +kernel
theorem dX5_sends_19 : decode cX5_sends 19 = .ok (.iload 6, 2) := by decide +kernel
theorem dX5_sends_21 : decode cX5_sends 21 = .ok (.iadd, 1) := by decide +kernel
theorem dX5_sends_22 : decode cX5_sends 22 = .ok (.istore 7, 2) := by decide +kernel
theorem dX5_sends_24 : decode cX5_sends 24 = .ok (.aload_n 0, 1) := by decide +kernel
theorem dX5_sends_25 : decode cX5_sends 25 = .ok (.getfield 62, 3) := by decide +kernel
theorem dX5_sends_28 : decode cX5_sends 28 = .ok (.iload 7, 2) := by decide +kernel
theorem dX5_sends_30 : decode cX5_sends 30 = .ok (.iload_n 2, 1) := by decide +kernel
theorem dX5_sends_31 : decode cX5_sends 31 = .ok (.iastore, 1) := by decide +kernel
theorem dX5_sends_32 : decode cX5_sends 32 = .ok (.aload_n 0, 1) := by decide +kernel
theorem dX5_sends_33 : decode cX5_sends 33 = .ok (.getfield 65, 3) := by decide +kernel
theorem dX5_sends_36 : decode cX5_sends 36 = .ok (.iload 7, 2) := by decide +kernel
theorem dX5_sends_38 : decode cX5_sends 38 = .ok (.iload_n 3, 1) := by decide +kernel
theorem dX5_sends_39 : decode cX5_sends 39 = .ok (.iastore, 1) := by decide +kernel
theorem dX5_sends_40 : decode cX5_sends 40 = .ok (.aload_n 0, 1) := by decide +kernel
theorem dX5_sends_41 : decode cX5_sends 41 = .ok (.getfield 68, 3) := by decide +kernel
theorem dX5_sends_44 : decode cX5_sends 44 = .ok (.iload 7, 2) := by decide +kernel
theorem dX5_sends_46 : decode cX5_sends 46 = .ok (.iload 4, 2) := by decide +kernel
theorem dX5_sends_48 : decode cX5_sends 48 = .ok (.iastore, 1) := by decide +kernel
theorem dX5_sends_49 : decode cX5_sends 49 = .ok (.aload_n 0, 1) := by decide +kernel
theorem dX5_sends_50 : decode cX5_sends 50 = .ok (.getfield 71, 3) := by decide +kernel
theorem dX5_sends_53 : decode cX5_sends 53 = .ok (.iload 7, 2) := by decide +kernel
theorem dX5_sends_55 : decode cX5_sends 55 = .ok (.iload 5, 2) := by decide +kernel
theorem dX5_sends_57 : decode cX5_sends 57 = .ok (.iastore, 1) := by decide +kernel
theorem dX5_sends_58 : decode cX5_sends 58 = .ok (.aload_n 0, 1) := by decide +kernel
theorem dX5_sends_59 : decode cX5_sends 59 = .ok (.getfield 59, 3) := by decide +kernel
theorem dX5_sends_62 : decode cX5_sends 62 = .ok (.iload_n 1, 1) := by decide +kernel
theorem dX5_sends_63 : decode cX5_sends 63 = .ok (.dup2, 1) := by decide +kernel
theorem dX5_sends_64 : decode cX5_sends 64 = .ok (.iaload, 1) := by decide +kernel
theorem dX5_sends_65 : decode cX5_sends 65 = .ok (.iconst 1, 1) := by decide +kernel
theorem dX5_sends_66 : decode cX5_sends 66 = .ok (.iadd, 1) := by decide +kernel
theorem dX5_sends_67 : decode cX5_sends 67 = .ok (.iastore, 1) := by decide +kernel
theorem dX5_sends_68 : decode cX5_sends 68 = .ok (.return_, 1) := by decide +kernel
theorem dX5_takes_0 : decode cX5_takes 0 = .ok (.aload_n 0, 1) := by decide +kernel
theorem dX5_takes_1 : decode cX5_takes 1 = .ok (.getfield 59, 3) := by decide +kernel
theorem dX5_takes_4 : decode cX5_takes 4 = .ok (.iload_n 1, 1) := by decide +kernel
theorem dX5_takes_5 : decode cX5_takes 5 = .ok (.dup2, 1) := by decide +kernel
theorem dX5_takes_6 : decode cX5_takes 6 = .ok (.iaload, 1) := by decide +kernel
theorem dX5_takes_7 : decode cX5_takes 7 = .ok (.iconst 1, 1) := by decide +kernel
theorem dX5_takes_8 : decode cX5_takes 8 = .ok (.isub, 1) := by decide +kernel
theorem dX5_takes_9 : decode cX5_takes 9 = .ok (.iastore, 1) := by decide +kernel
theorem dX5_takes_10 : decode cX5_takes 10 = .ok (.bipush 40, 2) := by decide +kernel
theorem dX5_takes_12 : decode cX5_takes 12 = .ok (.iload_n 1, 1) := by decide +kernel
theorem dX5_takes_13 : decode cX5_takes 13 = .ok (.imul, 1) := by decide +kernel
theorem dX5_takes_14 : decode cX5_takes 14 = .ok (.istore_n 2, 1) := by decide +kernel
theorem dX5_takes_15 : decode cX5_takes 15 = .ok (.iload_n 2, 1) := by decide +kernel
theorem dX5_takes_16 : decode cX5_takes 16 = .ok (.istore_n 3, 1) := by decide +kernel
theorem dX5_takes_17 : decode cX5_takes 17 = .ok (.iload_n 3, 1) := by decide +kernel
theorem dX5_takes_18 : decode cX5_takes 18 = .ok (.iload_n 2, 1) := by decide +kernel
theorem dX5_takes_19 : decode cX5_takes 19 = .ok (.aload_n 0, 1) := by decide +kernel
theorem dX5_takes_20 : decode cX5_takes 20 = .ok (.getfield 59, 3) := by decide +kernel
theorem dX5_takes_23 : decode cX5_takes 23 = .ok (.iload_n 1, 1) := by decide +kernel
theorem dX5_takes_24 : decode cX5_takes 24 = .ok (.iaload, 1) := by decide +kernel
theorem dX5_takes_25 : decode cX5_takes 25 = .ok (.iadd, 1) := by decide +kernel
theorem dX5_takes_26 : decode cX5_takes 26 = .ok (.if_icmp .ge 65, 3) := by decide +kernel
theorem dX5_takes_29 : decode cX5_takes 29 = .ok (.aload_n 0, 1) := by decide +kernel
theorem dX5_takes_30 : decode cX5_takes 30 = .ok (.getfield 62, 3) := by decide +kernel
theorem dX5_takes_33 : decode cX5_takes 33 = .ok (.iload_n 3, 1) := by decide +kernel
theorem dX5_takes_34 : decode cX5_takes 34 = .ok (.aload_n 0, 1) := by decide +kernel
theorem dX5_takes_35 : decode cX5_takes 35 = .ok (.getfield 62, 3) := by decide +kernel
theorem dX5_takes_38 : decode cX5_takes 38 = .ok (.iload_n 3, 1) := by decide +kernel
theorem dX5_takes_39 : decode cX5_takes 39 = .ok (.iconst 1, 1) := by decide +kernel
theorem dX5_takes_40 : decode cX5_takes 40 = .ok (.iadd, 1) := by decide +kernel
theorem dX5_takes_41 : decode cX5_takes 41 = .ok (.iaload, 1) := by decide +kernel
theorem dX5_takes_42 : decode cX5_takes 42 = .ok (.iastore, 1) := by decide +kernel
theorem dX5_takes_43 : decode cX5_takes 43 = .ok (.aload_n 0, 1) := by decide +kernel
theorem dX5_takes_44 : decode cX5_takes 44 = .ok (.getfield 65, 3) := by decide +kernel
theorem dX5_takes_47 : decode cX5_takes 47 = .ok (.iload_n 3, 1) := by decide +kernel
theorem dX5_takes_48 : decode cX5_takes 48 = .ok (.aload_n 0, 1) := by decide +kernel
theorem dX5_takes_49 : decode cX5_takes 49 = .ok (.getfield 65, 3) := by decide +kernel
theorem dX5_takes_52 : decode cX5_takes 52 = .ok (.iload_n 3, 1) := by decide +kernel
theorem dX5_takes_53 : decode cX5_takes 53 = .ok (.iconst 1, 1) := by decide +kernel
theorem dX5_takes_54 : decode cX5_takes 54 = .ok (.iadd, 1) := by decide +kernel
theorem dX5_takes_55 : decode cX5_takes 55 = .ok (.iaload, 1) := by decide +kernel
theorem dX5_takes_56 : decode cX5_takes 56 = .ok (.iastore, 1) := by decide +kernel
theorem dX5_takes_57 : decode cX5_takes 57 = .ok (.aload_n 0, 1) := by decide +kernel
theorem dX5_takes_58 : decode cX5_takes 58 = .ok (.getfield 68, 3) := by decide +kernel
theorem dX5_takes_61 : decode cX5_takes 61 = .ok (.iload_n 3, 1) := by decide +kernel
theorem dX5_takes_62 : decode cX5_takes 62 = .ok (.aload_n 0, 1) := by decide +kernel
theorem dX5_takes_63 : decode cX5_takes 63 = .ok (.getfield 68, 3) := by decide +kernel
theorem dX5_takes_66 : decode cX5_takes 66 = .ok (.iload_n 3, 1) := by decide +kernel
theorem dX5_takes_67 : decode cX5_takes 67 = .ok (.iconst 1, 1) := by decide +kernel
theorem dX5_takes_68 : decode cX5_takes 68 = .ok (.iadd, 1) := by decide +kernel
theorem dX5_takes_69 : decode cX5_takes 69 = .ok (.iaload, 1) := by decide +kernel
theorem dX5_takes_70 : decode cX5_takes 70 = .ok (.iastore, 1) := by decide +kernel
theorem dX5_takes_71 : decode cX5_takes 71 = .ok (.aload_n 0, 1) := by decide +kernel
theorem dX5_takes_72 : decode cX5_takes 72 = .ok (.getfield 71, 3) := by decide +kernel
theorem dX5_takes_75 : decode cX5_takes 75 = .ok (.iload_n 3, 1) := by decide +kernel
theorem dX5_takes_76 : decode cX5_takes 76 = .ok (.aload_n 0, 1) := by decide +kernel
theorem dX5_takes_77 : decode cX5_takes 77 = .ok (.getfield 71, 3) := by decide +kernel
theorem dX5_takes_80 : decode cX5_takes 80 = .ok (.iload_n 3, 1) := by decide +kernel
theorem dX5_takes_81 : decode cX5_takes 81 = .ok (.iconst 1, 1) := by decide +kernel
theorem dX5_takes_82 : decode cX5_takes 82 = .ok (.iadd, 1) := by decide +kernel
theorem dX5_takes_83 : decode cX5_takes 83 = .ok (.iaload, 1) := by decide +kernel
theorem dX5_takes_84 : decode cX5_takes 84 = .ok (.iastore, 1) := by decide +kernel
theorem dX5_takes_85 : decode cX5_takes 85 = .ok (.iinc 3 1, 3) := by decide +kernel
theorem dX5_takes_88 : decode cX5_takes 88 = .ok (.goto (-71), 3) := by decide +kernel
theorem dX5_takes_91 : decode cX5_takes 91 = .ok (.return_, 1) := by decide +kernel
set_option maxRecDepth 20000 in
theorem ggX5_requests_X5_sends : GoodIn wsX5_requests wsX5_sends := goodIn_r _ [8, 9, 10, 11, 12, 13, 14, 15, 16, 17, 18, 19, 20, 21, 22, 23, 24, 25, 26, 27, 28, 29, 30, 31, 32, 33, 34, 35, 36, 37, 38] (by decide +kernel) (by decide +kernel)
set_option maxRecDepth 20000 in
theorem gX5_requests_X5_sends : GoodIn wsX5_requests (wsV RX5 87 RX5 yX5_sends wsX5_sends) := goodIn_app (goodIn_of _ (by decide +kernel)) ggX5_requests_X5_sends
theorem dX5_requests_0 : decode cX5_requests 0 = .ok (.aload_n 0, 1) := by decide +kernel
theorem dX5_requests_1 : decode cX5_requests 1 = .ok (.getfield 26, 3) := by decide +kernel
theorem dX5_requests_4 : decode cX5_requests 4 = .ok (.iload_n 1, 1) := by decide +kernel
theorem dX5_requests_5 : decode cX5_requests 5 = .ok (.dup2, 1) := by decide +kernel
theorem dX5_requests_6 : decode cX5_requests 6 = .ok (.iaload, 1) := by decide +kernel
theorem dX5_requests_7 : decode cX5_requests 7 = .ok (.iconst 1, 1) := by decide +kernel
theorem dX5_requests_8 : decode cX5_requests 8 = .ok (.iadd, 1) := by decide +kernel
theorem dX5_requests_9 : decode cX5_requests 9 = .ok (.iastore, 1) := by decide +kernel
theorem dX5_requests_10 : decode cX5_requests 10 = .ok (.aload_n 0, 1) := by decide +kernel
theorem dX5_requests_11 : decode cX5_requests 11 = .ok (.getfield 29, 3) := by decide +kernel
theorem dX5_requests_14 : decode cX5_requests 14 = .ok (.iload_n 1, 1) := by decide +kernel
theorem dX5_requests_15 : decode cX5_requests 15 = .ok (.aload_n 0, 1) := by decide +kernel
theorem dX5_requests_16 : decode cX5_requests 16 = .ok (.getfield 84, 3) := by decide +kernel
theorem dX5_requests_19 : decode cX5_requests 19 = .ok (.iastore, 1) := by decide +kernel
theorem dX5_requests_20 : decode cX5_requests 20 = .ok (.aload_n 0, 1) := by decide +kernel
theorem dX5_requests_21 : decode cX5_requests 21 = .ok (.iconst 0, 1) := by decide +kernel
theorem dX5_requests_22 : decode cX5_requests 22 = .ok (.iconst 0, 1) := by decide +kernel
theorem dX5_requests_23 : decode cX5_requests 23 = .ok (.iload_n 1, 1) := by decide +kernel
theorem dX5_requests_24 : decode cX5_requests 24 = .ok (.iconst 0, 1) := by decide +kernel
theorem dX5_requests_25 : decode cX5_requests 25 = .ok (.iconst 0, 1) := by decide +kernel
theorem dX5_requests_26 : decode cX5_requests 26 = .ok (.invokevirtual 87, 3) := by decide +kernel
theorem dX5_requests_29 : decode cX5_requests 29 = .ok (.return_, 1) := by decide +kernel
theorem dX5_isBelow_0 : decode cX5_isBelow 0 = .ok (.aload_n 0, 1) := by decide +kernel
theorem dX5_isBelow_1 : decode cX5_isBelow 1 = .ok (.getfield 20, 3) := by decide +kernel
theorem dX5_isBelow_4 : decode cX5_isBelow 4 = .ok (.iload_n 1, 1) := by decide +kernel
theorem dX5_isBelow_5 : decode cX5_isBelow 5 = .ok (.iaload, 1) := by decide +kernel
theorem dX5_isBelow_6 : decode cX5_isBelow 6 = .ok (.istore_n 3, 1) := by decide +kernel
theorem dX5_isBelow_7 : decode cX5_isBelow 7 = .ok (.iload_n 3, 1) := by decide +kernel
theorem dX5_isBelow_8 : decode cX5_isBelow 8 = .ok (.iconst (-1), 1) := by decide +kernel
theorem dX5_isBelow_9 : decode cX5_isBelow 9 = .ok (.if_icmp .eq 18, 3) := by decide +kernel
theorem dX5_isBelow_12 : decode cX5_isBelow 12 = .ok (.iload_n 3, 1) := by decide +kernel
theorem dX5_isBelow_13 : decode cX5_isBelow 13 = .ok (.iload_n 2, 1) := by decide +kernel
theorem dX5_isBelow_14 : decode cX5_isBelow 14 = .ok (.if_icmp .eq 13, 3) := by decide +kernel
theorem dX5_isBelow_17 : decode cX5_isBelow 17 = .ok (.aload_n 0, 1) := by decide +kernel
theorem dX5_isBelow_18 : decode cX5_isBelow 18 = .ok (.getfield 20, 3) := by decide +kernel
theorem dX5_isBelow_21 : decode cX5_isBelow 21 = .ok (.iload_n 3, 1) := by decide +kernel
theorem dX5_isBelow_22 : decode cX5_isBelow 22 = .ok (.iaload, 1) := by decide +kernel
theorem dX5_isBelow_23 : decode cX5_isBelow 23 = .ok (.istore_n 3, 1) := by decide +kernel
theorem dX5_isBelow_24 : decode cX5_isBelow 24 = .ok (.goto (-17), 3) := by decide +kernel
theorem dX5_isBelow_27 : decode cX5_isBelow 27 = .ok (.iload_n 3, 1) := by decide +kernel
theorem dX5_isBelow_28 : decode cX5_isBelow 28 = .ok (.iconst (-1), 1) := by decide +kernel
theorem dX5_isBelow_29 : decode cX5_isBelow 29 = .ok (.if_icmp .eq 7, 3) := by decide +kernel
theorem dX5_isBelow_32 : decode cX5_isBelow 32 = .ok (.iconst 1, 1) := by decide +kernel
theorem dX5_isBelow_33 : decode cX5_isBelow 33 = .ok (.goto 4, 3) := by decide +kernel
theorem dX5_isBelow_36 : decode cX5_isBelow 36 = .ok (.iconst 0, 1) := by decide +kernel
theorem dX5_isBelow_37 : decode cX5_isBelow 37 = .ok (.ireturn, 1) := by decide +kernel
set_option maxRecDepth 20000 in
theorem ggX5_finishes_X5_sends : GoodIn wsX5_finishes wsX5_sends := goodIn_r _ [8, 9, 10, 11, 12, 13, 19, 20, 21, 22, 23, 24, 25, 26, 27, 28, 29, 30, 31, 32, 33, 34, 35, 36, 37, 38, 39, 40, 41, 42, 43] (by decide +kernel) (by decide +kernel)
set_option maxRecDepth 20000 in
theorem gX5_finishes_X5_sends : GoodIn wsX5_finishes (wsV RX5 87 RX5 yX5_sends wsX5_sends) := goodIn_app (goodIn_of _ (by decide +kernel)) ggX5_finishes_X5_sends
set_option maxRecDepth 20000 in
theorem ggX5_finishes_X5_isBelow : GoodIn wsX5_finishes wsX5_isBelow := goodIn_r _ [17, 18, 19, 20, 21, 22, 23, 24, 25, 26, 27, 28, 29, 30, 31, 32, 33, 34, 35, 36, 37, 38, 39, 40, 41, 42, 43] (by decide +kernel) (by decide +kernel)
set_option maxRecDepth 20000 in
theorem gX5_finishes_X5_isBelow : GoodIn wsX5_finishes (wsV RX5 91 RX5 yX5_isBelow wsX5_isBelow) := goodIn_app (goodIn_of _ (by decide +kernel)) ggX5_finishes_X5_isBelow
theorem dX5_finishes_0 : decode cX5_finishes 0 = .ok (.aload_n 0, 1) := by decide +kernel
theorem dX5_finishes_1 : decode cX5_finishes 1 = .ok (.getfield 32, 3) := by decide +kernel
theorem dX5_finishes_4 : decode cX5_finishes 4 = .ok (.iload_n 1, 1) := by decide +kernel
theorem dX5_finishes_5 : decode cX5_finishes 5 = .ok (.iload_n 2, 1) := by decide +kernel
theorem dX5_finishes_6 : decode cX5_finishes 6 = .ok (.iastore, 1) := by decide +kernel
theorem dX5_finishes_7 : decode cX5_finishes 7 = .ok (.aload_n 0, 1) := by decide +kernel
theorem dX5_finishes_8 : decode cX5_finishes 8 = .ok (.dup, 1) := by decide +kernel
theorem dX5_finishes_9 : decode cX5_finishes 9 = .ok (.getfield 7, 3) := by decide +kernel
theorem dX5_finishes_12 : decode cX5_finishes 12 = .ok (.iload_n 2, 1) := by decide +kernel
theorem dX5_finishes_13 : decode cX5_finishes 13 = .ok (.ifCond .ne 16, 3) := by decide +kernel
theorem dX5_finishes_16 : decode cX5_finishes 16 = .ok (.aload_n 0, 1) := by decide +kernel
theorem dX5_finishes_17 : decode cX5_finishes 17 = .ok (.getfield 7, 3) := by decide +kernel
theorem dX5_finishes_20 : decode cX5_finishes 20 = .ok (.bipush 100, 2) := by decide +kernel
theorem dX5_finishes_22 : decode cX5_finishes 22 = .ok (.if_icmp .ge 7, 3) := by decide +kernel
theorem dX5_finishes_25 : decode cX5_finishes 25 = .ok (.iconst 1, 1) := by decide +kernel
theorem dX5_finishes_26 : decode cX5_finishes 26 = .ok (.goto 4, 3) := by decide +kernel
theorem dX5_finishes_29 : decode cX5_finishes 29 = .ok (.iconst 0, 1) := by decide +kernel
theorem dX5_finishes_30 : decode cX5_finishes 30 = .ok (.iadd, 1) := by decide +kernel
theorem dX5_finishes_31 : decode cX5_finishes 31 = .ok (.putfield 7, 3) := by decide +kernel
theorem dX5_finishes_34 : decode cX5_finishes 34 = .ok (.iload_n 3, 1) := by decide +kernel
theorem dX5_finishes_35 : decode cX5_finishes 35 = .ok (.ifCond .eq 12, 3) := by decide +kernel
theorem dX5_finishes_38 : decode cX5_finishes 38 = .ok (.aload_n 0, 1) := by decide +kernel
theorem dX5_finishes_39 : decode cX5_finishes 39 = .ok (.iconst 0, 1) := by decide +kernel
theorem dX5_finishes_40 : decode cX5_finishes 40 = .ok (.iconst 1, 1) := by decide +kernel
theorem dX5_finishes_41 : decode cX5_finishes 41 = .ok (.iload_n 1, 1) := by decide +kernel
theorem dX5_finishes_42 : decode cX5_finishes 42 = .ok (.iconst 0, 1) := by decide +kernel
theorem dX5_finishes_43 : decode cX5_finishes 43 = .ok (.iconst 0, 1) := by decide +kernel
theorem dX5_finishes_44 : decode cX5_finishes 44 = .ok (.invokevirtual 87, 3) := by decide +kernel
theorem dX5_finishes_47 : decode cX5_finishes 47 = .ok (.iconst 1, 1) := by decide +kernel
theorem dX5_finishes_48 : decode cX5_finishes 48 = .ok (.istore 4, 2) := by decide +kernel
theorem dX5_finishes_50 : decode cX5_finishes 50 = .ok (.iload_n 1, 1) := by decide +kernel
theorem dX5_finishes_51 : decode cX5_finishes 51 = .ok (.iconst 1, 1) := by decide +kernel
theorem dX5_finishes_52 : decode cX5_finishes 52 = .ok (.iadd, 1) := by decide +kernel
theorem dX5_finishes_53 : decode cX5_finishes 53 = .ok (.istore 5, 2) := by decide +kernel
theorem dX5_finishes_55 : decode cX5_finishes 55 = .ok (.iload 5, 2) := by decide +kernel
theorem dX5_finishes_57 : decode cX5_finishes 57 = .ok (.aload_n 0, 1) := by decide +kernel
theorem dX5_finishes_58 : decode cX5_finishes 58 = .ok (.getfield 77, 3) := by decide +kernel
theorem dX5_finishes_61 : decode cX5_finishes 61 = .ok (.if_icmp .ge 51, 3) := by decide +kernel
theorem dX5_finishes_64 : decode cX5_finishes 64 = .ok (.aload_n 0, 1) := by decide +kernel
theorem dX5_finishes_65 : decode cX5_finishes 65 = .ok (.getfield 32, 3) := by decide +kernel
theorem dX5_finishes_68 : decode cX5_finishes 68 = .ok (.iload 5, 2) := by decide +kernel
theorem dX5_finishes_70 : decode cX5_finishes 70 = .ok (.iaload, 1) := by decide +kernel
theorem dX5_finishes_71 : decode cX5_finishes 71 = .ok (.iconst (-1), 1) := by decide +kernel
theorem dX5_finishes_72 : decode cX5_finishes 72 = .ok (.if_icmp .ne 34, 3) := by decide +kernel
theorem dX5_finishes_75 : decode cX5_finishes 75 = .ok (.aload_n 0, 1) := by decide +kernel
theorem dX5_finishes_76 : decode cX5_finishes 76 = .ok (.iload 5, 2) := by decide +kernel
theorem dX5_finishes_78 : decode cX5_finishes 78 = .ok (.iload_n 1, 1) := by decide +kernel
theorem dX5_finishes_79 : decode cX5_finishes 79 = .ok (.invokevirtual 91, 3) := by decide +kernel
theorem dX5_finishes_82 : decode cX5_finishes 82 = .ok (.ifCond .eq 24, 3) := by decide +kernel
theorem dX5_finishes_85 : decode cX5_finishes 85 = .ok (.aload_n 0, 1) := by decide +kernel
theorem dX5_finishes_86 : decode cX5_finishes 86 = .ok (.getfield 32, 3) := by decide +kernel
theorem dX5_finishes_89 : decode cX5_finishes 89 = .ok (.iload 5, 2) := by decide +kernel
theorem dX5_finishes_91 : decode cX5_finishes 91 = .ok (.iconst 1, 1) := by decide +kernel
theorem dX5_finishes_92 : decode cX5_finishes 92 = .ok (.iastore, 1) := by decide +kernel
theorem dX5_finishes_93 : decode cX5_finishes 93 = .ok (.aload_n 0, 1) := by decide +kernel
theorem dX5_finishes_94 : decode cX5_finishes 94 = .ok (.iconst 0, 1) := by decide +kernel
theorem dX5_finishes_95 : decode cX5_finishes 95 = .ok (.iconst 1, 1) := by decide +kernel
theorem dX5_finishes_96 : decode cX5_finishes 96 = .ok (.iload 5, 2) := by decide +kernel
theorem dX5_finishes_98 : decode cX5_finishes 98 = .ok (.iconst 0, 1) := by decide +kernel
theorem dX5_finishes_99 : decode cX5_finishes 99 = .ok (.iconst 0, 1) := by decide +kernel
theorem dX5_finishes_100 : decode cX5_finishes 100 = .ok (.invokevirtual 87, 3) := by decide +kernel
theorem dX5_finishes_103 : decode cX5_finishes 103 = .ok (.iinc 4 1, 3) := by decide +kernel
theorem dX5_finishes_106 : decode cX5_finishes 106 = .ok (.iinc 5 1, 3) := by decide +kernel
theorem dX5_finishes_109 : decode cX5_finishes 109 = .ok (.goto (-54), 3) := by decide +kernel
theorem dX5_finishes_112 : decode cX5_finishes 112 = .ok (.iload 4, 2) := by decide +kernel
theorem dX5_finishes_114 : decode cX5_finishes 114 = .ok (.ireturn, 1) := by decide +kernel
set_option maxRecDepth 20000 in
theorem ggX5_open_X5_in : GoodIn wsX5_open wsX5_in := goodIn_r _ [12] (by decide +kernel) (by decide +kernel)
set_option maxRecDepth 20000 in
theorem gX5_open_X5_in : GoodIn wsX5_open (va_wsS RX5 80 yX5_in wsX5_in) := goodIn_app (goodIn_of _ (by decide +kernel)) ggX5_open_X5_in
set_option maxRecDepth 20000 in
theorem ggX5_open_X5_isCall : GoodIn wsX5_open wsX5_isCall := goodIn_r _ [16, 1, 9, 10, 11, 12, 32, 33, 34, 35, 36, 37, 38, 39, 40, 41, 42, 43, 44, 45, 46, 47, 48, 49, 50, 51, 52, 53, 54, 55, 56] (by decide +kernel) (by decide +kernel)
set_option maxRecDepth 20000 in
theorem gX5_open_X5_isCall : GoodIn wsX5_open (wsV RX5 95 RX5 yX5_isCall wsX5_isCall) := goodIn_app (goodIn_of _ (by decide +kernel)) ggX5_open_X5_isCall
set_option maxRecDepth 20000 in
theorem ggX5_open_X5_requests : GoodIn wsX5_open wsX5_requests := goodIn_r _ [20, 21, 22, 8, 23, 24, 25, 11, 26, 27, 28, 29, 30, 31, 32, 33, 34, 35, 36, 37, 38, 39, 40, 41, 42, 43, 44, 45, 46, 47, 48, 49, 50, 51, 52, 53, 54, 55, 56] (by decide +kernel) (by decide +kernel)
set_option maxRecDepth 20000 in
theorem gX5_open_X5_requests : GoodIn wsX5_open (wsV RX5 99 RX5 yX5_requests wsX5_requests) := goodIn_app (goodIn_of _ (by decide +kernel)) ggX5_open_X5_requests
theorem dX5_open_0 : decode cX5_open 0 = .ok (.iload_n 1, 1) := by decide +kernel
theorem dX5_open_1 : decode cX5_open 1 = .ok (.iconst 0, 1) := by decide +kernel
theorem dX5_open_2 : decode cX5_open 2 = .ok (.iconst 3, 1) := by decide +kernel
theorem dX5_open_3 : decode cX5_open 3 = .ok (.invokestatic 80, 3) := by decide +kernel
theorem dX5_open_6 : decode cX5_open 6 = .ok (.ifCond .eq 31, 3) := by decide +kernel
theorem dX5_open_9 : decode cX5_open 9 = .ok (.iload_n 2, 1) := by decide +kernel
theorem dX5_open_10 : decode cX5_open 10 = .ok (.sipush (-1000), 3) := by decide +kernel
theorem dX5_open_13 : decode cX5_open 13 = .ok (.sipush 1000, 3) := by decide +kernel
theorem dX5_open_16 : decode cX5_open 16 = .ok (.invokestatic 80, 3) := by decide +kernel
theorem dX5_open_19 : decode cX5_open 19 = .ok (.ifCond .eq 18, 3) := by decide +kernel
theorem dX5_open_22 : decode cX5_open 22 = .ok (.iload_n 3, 1) := by decide +kernel
theorem dX5_open_23 : decode cX5_open 23 = .ok (.iconst 1, 1) := by decide +kernel
theorem dX5_open_24 : decode cX5_open 24 = .ok (.sipush 1000, 3) := by decide +kernel
theorem dX5_open_27 : decode cX5_open 27 = .ok (.invokestatic 80, 3) := by decide +kernel
theorem dX5_open_30 : decode cX5_open 30 = .ok (.ifCond .eq 7, 3) := by decide +kernel
theorem dX5_open_33 : decode cX5_open 33 = .ok (.iconst 1, 1) := by decide +kernel
theorem dX5_open_34 : decode cX5_open 34 = .ok (.goto 4, 3) := by decide +kernel
theorem dX5_open_37 : decode cX5_open 37 = .ok (.iconst 0, 1) := by decide +kernel
theorem dX5_open_38 : decode cX5_open 38 = .ok (.istore 5, 2) := by decide +kernel
theorem dX5_open_40 : decode cX5_open 40 = .ok (.aload_n 0, 1) := by decide +kernel
theorem dX5_open_41 : decode cX5_open 41 = .ok (.iload 4, 2) := by decide +kernel
theorem dX5_open_43 : decode cX5_open 43 = .ok (.iconst (-1), 1) := by decide +kernel
theorem dX5_open_44 : decode cX5_open 44 = .ok (.if_icmp .eq 16, 3) := by decide +kernel
theorem dX5_open_47 : decode cX5_open 47 = .ok (.aload_n 0, 1) := by decide +kernel
theorem dX5_open_48 : decode cX5_open 48 = .ok (.iload 4, 2) := by decide +kernel
theorem dX5_open_50 : decode cX5_open 50 = .ok (.invokevirtual 95, 3) := by decide +kernel
theorem dX5_open_53 : decode cX5_open 53 = .ok (.ifCond .ne 7, 3) := by decide +kernel
theorem dX5_open_56 : decode cX5_open 56 = .ok (.iconst 1, 1) := by decide +kernel
theorem dX5_open_57 : decode cX5_open 57 = .ok (.goto 43, 3) := by decide +kernel
theorem dX5_open_60 : decode cX5_open 60 = .ok (.iload 5, 2) := by decide +kernel
theorem dX5_open_62 : decode cX5_open 62 = .ok (.ifCond .ne 7, 3) := by decide +kernel
theorem dX5_open_65 : decode cX5_open 65 = .ok (.iconst 2, 1) := by decide +kernel
theorem dX5_open_66 : decode cX5_open 66 = .ok (.goto 34, 3) := by decide +kernel
theorem dX5_open_69 : decode cX5_open 69 = .ok (.aload_n 0, 1) := by decide +kernel
theorem dX5_open_70 : decode cX5_open 70 = .ok (.getfield 77, 3) := by decide +kernel
theorem dX5_open_73 : decode cX5_open 73 = .ok (.bipush 40, 2) := by decide +kernel
theorem dX5_open_75 : decode cX5_open 75 = .ok (.if_icmp .eq 20, 3) := by decide +kernel
theorem dX5_open_78 : decode cX5_open 78 = .ok (.iload 4, 2) := by decide +kernel
theorem dX5_open_80 : decode cX5_open 80 = .ok (.iconst (-1), 1) := by decide +kernel
theorem dX5_open_81 : decode cX5_open 81 = .ok (.if_icmp .eq 18, 3) := by decide +kernel
theorem dX5_open_84 : decode cX5_open 84 = .ok (.aload_n 0, 1) := by decide +kernel
theorem dX5_open_85 : decode cX5_open 85 = .ok (.getfield 32, 3) := by decide +kernel
theorem dX5_open_88 : decode cX5_open 88 = .ok (.iload 4, 2) := by decide +kernel
theorem dX5_open_90 : decode cX5_open 90 = .ok (.iaload, 1) := by decide +kernel
theorem dX5_open_91 : decode cX5_open 91 = .ok (.iconst (-1), 1) := by decide +kernel
theorem dX5_open_92 : decode cX5_open 92 = .ok (.if_icmp .eq 7, 3) := by decide +kernel
theorem dX5_open_95 : decode cX5_open 95 = .ok (.iconst 3, 1) := by decide +kernel
theorem dX5_open_96 : decode cX5_open 96 = .ok (.goto 4, 3) := by decide +kernel
theorem dX5_open_99 : decode cX5_open 99 = .ok (.iconst 0, 1) := by decide +kernel
theorem dX5_open_100 : decode cX5_open 100 = .ok (.putfield 74, 3) := by decide +kernel
theorem dX5_open_103 : decode cX5_open 103 = .ok (.aload_n 0, 1) := by decide +kernel
theorem dX5_open_104 : decode cX5_open 104 = .ok (.getfield 74, 3) := by decide +kernel
theorem dX5_open_107 : decode cX5_open 107 = .ok (.ifCond .le 5, 3) := by decide +kernel
theorem dX5_open_110 : decode cX5_open 110 = .ok (.iconst 0, 1) := by decide +kernel
theorem dX5_open_111 : decode cX5_open 111 = .ok (.ireturn, 1) := by decide +kernel
theorem dX5_open_112 : decode cX5_open 112 = .ok (.aload_n 0, 1) := by decide +kernel
theorem dX5_open_113 : decode cX5_open 113 = .ok (.getfield 77, 3) := by decide +kernel
theorem dX5_open_116 : decode cX5_open 116 = .ok (.istore 6, 2) := by decide +kernel
theorem dX5_open_118 : decode cX5_open 118 = .ok (.aload_n 0, 1) := by decide +kernel
theorem dX5_open_119 : decode cX5_open 119 = .ok (.dup, 1) := by decide +kernel
theorem dX5_open_120 : decode cX5_open 120 = .ok (.getfield 77, 3) := by decide +kernel
theorem dX5_open_123 : decode cX5_open 123 = .ok (.iconst 1, 1) := by decide +kernel
theorem dX5_open_124 : decode cX5_open 124 = .ok (.iadd, 1) := by decide +kernel
theorem dX5_open_125 : decode cX5_open 125 = .ok (.putfield 77, 3) := by decide +kernel
theorem dX5_open_128 : decode cX5_open 128 = .ok (.aload_n 0, 1) := by decide +kernel
theorem dX5_open_129 : decode cX5_open 129 = .ok (.getfield 13, 3) := by decide +kernel
theorem dX5_open_132 : decode cX5_open 132 = .ok (.iload 6, 2) := by decide +kernel
theorem dX5_open_134 : decode cX5_open 134 = .ok (.iload_n 1, 1) := by decide +kernel
theorem dX5_open_135 : decode cX5_open 135 = .ok (.iastore, 1) := by decide +kernel
theorem dX5_open_136 : decode cX5_open 136 = .ok (.aload_n 0, 1) := by decide +kernel
theorem dX5_open_137 : decode cX5_open 137 = .ok (.getfield 17, 3) := by decide +kernel
theorem dX5_open_140 : decode cX5_open 140 = .ok (.iload 6, 2) := by decide +kernel
theorem dX5_open_142 : decode cX5_open 142 = .ok (.iload_n 2, 1) := by decide +kernel
theorem dX5_open_143 : decode cX5_open 143 = .ok (.iastore, 1) := by decide +kernel
theorem dX5_open_144 : decode cX5_open 144 = .ok (.aload_n 0, 1) := by decide +kernel
theorem dX5_open_145 : decode cX5_open 145 = .ok (.getfield 20, 3) := by decide +kernel
theorem dX5_open_148 : decode cX5_open 148 = .ok (.iload 6, 2) := by decide +kernel
theorem dX5_open_150 : decode cX5_open 150 = .ok (.iload 4, 2) := by decide +kernel
theorem dX5_open_152 : decode cX5_open 152 = .ok (.iastore, 1) := by decide +kernel
theorem dX5_open_153 : decode cX5_open 153 = .ok (.aload_n 0, 1) := by decide +kernel
theorem dX5_open_154 : decode cX5_open 154 = .ok (.getfield 23, 3) := by decide +kernel
theorem dX5_open_157 : decode cX5_open 157 = .ok (.iload 6, 2) := by decide +kernel
theorem dX5_open_159 : decode cX5_open 159 = .ok (.iload 4, 2) := by decide +kernel
theorem dX5_open_161 : decode cX5_open 161 = .ok (.iconst (-1), 1) := by decide +kernel
theorem dX5_open_162 : decode cX5_open 162 = .ok (.if_icmp .eq 29, 3) := by decide +kernel
theorem dX5_open_165 : decode cX5_open 165 = .ok (.aload_n 0, 1) := by decide +kernel
theorem dX5_open_166 : decode cX5_open 166 = .ok (.getfield 23, 3) := by decide +kernel
theorem dX5_open_169 : decode cX5_open 169 = .ok (.iload 4, 2) := by decide +kernel
theorem dX5_open_171 : decode cX5_open 171 = .ok (.iaload, 1) := by decide +kernel
theorem dX5_open_172 : decode cX5_open 172 = .ok (.aload_n 0, 1) := by decide +kernel
theorem dX5_open_173 : decode cX5_open 173 = .ok (.getfield 84, 3) := by decide +kernel
theorem dX5_open_176 : decode cX5_open 176 = .ok (.iload_n 3, 1) := by decide +kernel
theorem dX5_open_177 : decode cX5_open 177 = .ok (.iadd, 1) := by decide +kernel
theorem dX5_open_178 : decode cX5_open 178 = .ok (.if_icmp .ge 13, 3) := by decide +kernel
theorem dX5_open_181 : decode cX5_open 181 = .ok (.aload_n 0, 1) := by decide +kernel
theorem dX5_open_182 : decode cX5_open 182 = .ok (.getfield 23, 3) := by decide +kernel
theorem dX5_open_185 : decode cX5_open 185 = .ok (.iload 4, 2) := by decide +kernel
theorem dX5_open_187 : decode cX5_open 187 = .ok (.iaload, 1) := by decide +kernel
theorem dX5_open_188 : decode cX5_open 188 = .ok (.goto 9, 3) := by decide +kernel
theorem dX5_open_191 : decode cX5_open 191 = .ok (.aload_n 0, 1) := by decide +kernel
theorem dX5_open_192 : decode cX5_open 192 = .ok (.getfield 84, 3) := by decide +kernel
theorem dX5_open_195 : decode cX5_open 195 = .ok (.iload_n 3, 1) := by decide +kernel
theorem dX5_open_196 : decode cX5_open 196 = .ok (.iadd, 1) := by decide +kernel
theorem dX5_open_197 : decode cX5_open 197 = .ok (.iastore, 1) := by decide +kernel
theorem dX5_open_198 : decode cX5_open 198 = .ok (.aload_n 0, 1) := by decide +kernel
theorem dX5_open_199 : decode cX5_open 199 = .ok (.getfield 32, 3) := by decide +kernel
theorem dX5_open_202 : decode cX5_open 202 = .ok (.iload 6, 2) := by decide +kernel
theorem dX5_open_204 : decode cX5_open 204 = .ok (.iconst (-1), 1) := by decide +kernel
theorem dX5_open_205 : decode cX5_open 205 = .ok (.iastore, 1) := by decide +kernel
theorem dX5_open_206 : decode cX5_open 206 = .ok (.aload_n 0, 1) := by decide +kernel
theorem dX5_open_207 : decode cX5_open 207 = .ok (.iload 6, 2) := by decide +kernel
theorem dX5_open_209 : decode cX5_open 209 = .ok (.invokevirtual 99, 3) := by decide +kernel
theorem dX5_open_212 : decode cX5_open 212 = .ok (.iload 6, 2) := by decide +kernel
theorem dX5_open_214 : decode cX5_open 214 = .ok (.ireturn, 1) := by decide +kernel
set_option maxRecDepth 20000 in
theorem ggX5_cancel_X5_isCall : GoodIn wsX5_cancel wsX5_isCall := goodIn_r _ [7, 8, 9, 10, 6, 11, 31, 32, 33, 34, 35, 36, 37, 38, 39, 40, 41, 42, 43, 44, 45, 46, 47, 48, 49, 50, 51, 52, 53, 54, 55] (by decide +kernel) (by decide +kernel)
set_option maxRecDepth 20000 in
theorem gX5_cancel_X5_isCall : GoodIn wsX5_cancel (wsV RX5 95 RX5 yX5_isCall wsX5_isCall) := goodIn_app (goodIn_of _ (by decide +kernel)) ggX5_cancel_X5_isCall
set_option maxRecDepth 20000 in
theorem ggX5_cancel_X5_finishes : GoodIn wsX5_cancel wsX5_finishes := goodIn_r _ [15, 1, 16, 8, 17, 18, 19, 6, 20, 21, 22, 23, 24, 25, 26, 27, 28, 29, 30, 31, 32, 33, 34, 35, 36, 37, 38, 39, 40, 41, 42, 43, 44, 45, 46, 47, 48, 49, 50, 51, 52, 53, 54, 55] (by decide +kernel) (by decide +kernel)
set_option maxRecDepth 20000 in
theorem gX5_cancel_X5_finishes : GoodIn wsX5_cancel (wsV RX5 103 RX5 yX5_finishes wsX5_finishes) := goodIn_app (goodIn_of _ (by decide +kernel)) ggX5_cancel_X5_finishes
theorem dX5_cancel_0 : decode cX5_cancel 0 = .ok (.aload_n 0, 1) := by decide +kernel
theorem dX5_cancel_1 : decode cX5_cancel 1 = .ok (.aload_n 0, 1) := by decide +kernel
theorem dX5_cancel_2 : decode cX5_cancel 2 = .ok (.iload_n 1, 1) := by decide +kernel
theorem dX5_cancel_3 : decode cX5_cancel 3 = .ok (.invokevirtual 95, 3) := by decide +kernel
theorem dX5_cancel_6 : decode cX5_cancel 6 = .ok (.ifCond .ne 7, 3) := by decide +kernel
theorem dX5_cancel_9 : decode cX5_cancel 9 = .ok (.iconst 1, 1) := by decide +kernel
theorem dX5_cancel_10 : decode cX5_cancel 10 = .ok (.goto 18, 3) := by decide +kernel
theorem dX5_cancel_13 : decode cX5_cancel 13 = .ok (.aload_n 0, 1) := by decide +kernel
theorem dX5_cancel_14 : decode cX5_cancel 14 = .ok (.getfield 32, 3) := by decide +kernel
theorem dX5_cancel_17 : decode cX5_cancel 17 = .ok (.iload_n 1, 1) := by decide +kernel
theorem dX5_cancel_18 : decode cX5_cancel 18 = .ok (.iaload, 1) := by decide +kernel
theorem dX5_cancel_19 : decode cX5_cancel 19 = .ok (.iconst (-1), 1) := by decide +kernel
theorem dX5_cancel_20 : decode cX5_cancel 20 = .ok (.if_icmp .eq 7, 3) := by decide +kernel
theorem dX5_cancel_23 : decode cX5_cancel 23 = .ok (.iconst 2, 1) := by decide +kernel
theorem dX5_cancel_24 : decode cX5_cancel 24 = .ok (.goto 4, 3) := by decide +kernel
theorem dX5_cancel_27 : decode cX5_cancel 27 = .ok (.iconst 0, 1) := by decide +kernel
theorem dX5_cancel_28 : decode cX5_cancel 28 = .ok (.putfield 74, 3) := by decide +kernel
theorem dX5_cancel_31 : decode cX5_cancel 31 = .ok (.aload_n 0, 1) := by decide +kernel
theorem dX5_cancel_32 : decode cX5_cancel 32 = .ok (.getfield 74, 3) := by decide +kernel
theorem dX5_cancel_35 : decode cX5_cancel 35 = .ok (.ifCond .le 7, 3) := by decide +kernel
theorem dX5_cancel_38 : decode cX5_cancel 38 = .ok (.iconst 0, 1) := by decide +kernel
theorem dX5_cancel_39 : decode cX5_cancel 39 = .ok (.goto 10, 3) := by decide +kernel
theorem dX5_cancel_42 : decode cX5_cancel 42 = .ok (.aload_n 0, 1) := by decide +kernel
theorem dX5_cancel_43 : decode cX5_cancel 43 = .ok (.iload_n 1, 1) := by decide +kernel
theorem dX5_cancel_44 : decode cX5_cancel 44 = .ok (.iconst 1, 1) := by decide +kernel
theorem dX5_cancel_45 : decode cX5_cancel 45 = .ok (.iconst 1, 1) := by decide +kernel
theorem dX5_cancel_46 : decode cX5_cancel 46 = .ok (.invokevirtual 103, 3) := by decide +kernel
theorem dX5_cancel_49 : decode cX5_cancel 49 = .ok (.ireturn, 1) := by decide +kernel
set_option maxRecDepth 20000 in
theorem ggX5_grant_X5_isCall : GoodIn wsX5_grant wsX5_isCall := goodIn_r _ [8, 9, 10, 11, 7, 12, 22, 23, 24, 25, 26, 27, 28, 29, 30, 31, 32, 33, 34, 35, 36, 37, 38, 39, 40, 41, 42, 43, 44, 45, 46] (by decide +kernel) (by decide +kernel)
set_option maxRecDepth 20000 in
theorem gX5_grant_X5_isCall : GoodIn wsX5_grant (wsV RX5 95 RX5 yX5_isCall wsX5_isCall) := goodIn_app (goodIn_of _ (by decide +kernel)) ggX5_grant_X5_isCall
set_option maxRecDepth 20000 in
theorem ggX5_grant_X5_in : GoodIn wsX5_grant wsX5_in := goodIn_r _ [12] (by decide +kernel) (by decide +kernel)
set_option maxRecDepth 20000 in
theorem gX5_grant_X5_in : GoodIn wsX5_grant (va_wsS RX5 80 yX5_in wsX5_in) := goodIn_app (goodIn_of _ (by decide +kernel)) ggX5_grant_X5_in
set_option maxRecDepth 20000 in
theorem ggX5_grant_X5_sends : GoodIn wsX5_grant wsX5_sends := goodIn_r _ [16, 17, 18, 19, 20, 21, 22, 23, 24, 25, 26, 27, 28, 29, 30, 31, 32, 33, 34, 35, 36, 37, 38, 39, 40, 41, 42, 43, 44, 45, 46] (by decide +kernel) (by decide +kernel)
set_option maxRecDepth 20000 in
theorem gX5_grant_X5_sends : GoodIn wsX5_grant (wsV RX5 87 RX5 yX5_sends wsX5_sends) := goodIn_app (goodIn_of _ (by decide +kernel)) ggX5_grant_X5_sends
theorem dX5_grant_0 : decode cX5_grant 0 = .ok (.aload_n 0, 1) := by decide +kernel
theorem dX5_grant_1 : decode cX5_grant 1 = .ok (.aload_n 0, 1) := by decide +kernel
theorem dX5_grant_2 : decode cX5_grant 2 = .ok (.iload_n 1, 1) := by decide +kernel
theorem dX5_grant_3 : decode cX5_grant 3 = .ok (.invokevirtual 95, 3) := by decide +kernel
theorem dX5_grant_6 : decode cX5_grant 6 = .ok (.ifCond .ne 7, 3) := by decide +kernel
theorem dX5_grant_9 : decode cX5_grant 9 = .ok (.iconst 1, 1) := by decide +kernel
theorem dX5_grant_10 : decode cX5_grant 10 = .ok (.goto 42, 3) := by decide +kernel
theorem dX5_grant_13 : decode cX5_grant 13 = .ok (.iload_n 2, 1) := by decide +kernel
theorem dX5_grant_14 : decode cX5_grant 14 = .ok (.iconst 1, 1) := by decide +kernel
theorem dX5_grant_15 : decode cX5_grant 15 = .ok (.bipush 10, 2) := by decide +kernel
theorem dX5_grant_17 : decode cX5_grant 17 = .ok (.invokestatic 80, 3) := by decide +kernel
theorem dX5_grant_20 : decode cX5_grant 20 = .ok (.ifCond .ne 7, 3) := by decide +kernel
theorem dX5_grant_23 : decode cX5_grant 23 = .ok (.iconst 2, 1) := by decide +kernel
theorem dX5_grant_24 : decode cX5_grant 24 = .ok (.goto 28, 3) := by decide +kernel
theorem dX5_grant_27 : decode cX5_grant 27 = .ok (.aload_n 0, 1) := by decide +kernel
theorem dX5_grant_28 : decode cX5_grant 28 = .ok (.getfield 13, 3) := by decide +kernel
theorem dX5_grant_31 : decode cX5_grant 31 = .ok (.iload_n 1, 1) := by decide +kernel
theorem dX5_grant_32 : decode cX5_grant 32 = .ok (.iaload, 1) := by decide +kernel
theorem dX5_grant_33 : decode cX5_grant 33 = .ok (.iconst 3, 1) := by decide +kernel
theorem dX5_grant_34 : decode cX5_grant 34 = .ok (.if_icmp .ne 13, 3) := by decide +kernel
theorem dX5_grant_37 : decode cX5_grant 37 = .ok (.aload_n 0, 1) := by decide +kernel
theorem dX5_grant_38 : decode cX5_grant 38 = .ok (.getfield 32, 3) := by decide +kernel
theorem dX5_grant_41 : decode cX5_grant 41 = .ok (.iload_n 1, 1) := by decide +kernel
theorem dX5_grant_42 : decode cX5_grant 42 = .ok (.iaload, 1) := by decide +kernel
theorem dX5_grant_43 : decode cX5_grant 43 = .ok (.iconst (-1), 1) := by decide +kernel
theorem dX5_grant_44 : decode cX5_grant 44 = .ok (.if_icmp .eq 7, 3) := by decide +kernel
theorem dX5_grant_47 : decode cX5_grant 47 = .ok (.iconst 3, 1) := by decide +kernel
theorem dX5_grant_48 : decode cX5_grant 48 = .ok (.goto 4, 3) := by decide +kernel
theorem dX5_grant_51 : decode cX5_grant 51 = .ok (.iconst 0, 1) := by decide +kernel
theorem dX5_grant_52 : decode cX5_grant 52 = .ok (.putfield 74, 3) := by decide +kernel
theorem dX5_grant_55 : decode cX5_grant 55 = .ok (.aload_n 0, 1) := by decide +kernel
theorem dX5_grant_56 : decode cX5_grant 56 = .ok (.getfield 74, 3) := by decide +kernel
theorem dX5_grant_59 : decode cX5_grant 59 = .ok (.ifCond .ne 12, 3) := by decide +kernel
theorem dX5_grant_62 : decode cX5_grant 62 = .ok (.aload_n 0, 1) := by decide +kernel
theorem dX5_grant_63 : decode cX5_grant 63 = .ok (.iconst 0, 1) := by decide +kernel
theorem dX5_grant_64 : decode cX5_grant 64 = .ok (.iconst 2, 1) := by decide +kernel
theorem dX5_grant_65 : decode cX5_grant 65 = .ok (.iload_n 1, 1) := by decide +kernel
theorem dX5_grant_66 : decode cX5_grant 66 = .ok (.iconst 0, 1) := by decide +kernel
theorem dX5_grant_67 : decode cX5_grant 67 = .ok (.iload_n 2, 1) := by decide +kernel
theorem dX5_grant_68 : decode cX5_grant 68 = .ok (.invokevirtual 87, 3) := by decide +kernel
theorem dX5_grant_71 : decode cX5_grant 71 = .ok (.return_, 1) := by decide +kernel
theorem dX5_calls_0 : decode cX5_calls 0 = .ok (.aload_n 0, 1) := by decide +kernel
theorem dX5_calls_1 : decode cX5_calls 1 = .ok (.iconst 0, 1) := by decide +kernel
theorem dX5_calls_2 : decode cX5_calls 2 = .ok (.putfield 74, 3) := by decide +kernel
theorem dX5_calls_5 : decode cX5_calls 5 = .ok (.aload_n 0, 1) := by decide +kernel
theorem dX5_calls_6 : decode cX5_calls 6 = .ok (.getfield 77, 3) := by decide +kernel
theorem dX5_calls_9 : decode cX5_calls 9 = .ok (.ireturn, 1) := by decide +kernel
set_option maxRecDepth 20000 in
theorem ggX5_told_X5_isCall : GoodIn wsX5_told wsX5_isCall := goodIn_r _ [6, 7, 8, 9, 5, 10, 15, 16, 17, 18, 19, 20, 21, 22, 23, 24, 25, 26, 27, 28, 29, 30, 31, 32, 33, 34, 35, 36, 37, 38, 39] (by decide +kernel) (by decide +kernel)
set_option maxRecDepth 20000 in
theorem gX5_told_X5_isCall : GoodIn wsX5_told (wsV RX5 95 RX5 yX5_isCall wsX5_isCall) := goodIn_app (goodIn_of _ (by decide +kernel)) ggX5_told_X5_isCall
set_option maxRecDepth 20000 in
theorem ggX5_told_X5_fails : GoodIn wsX5_told wsX5_fails := goodIn_r _ [14, 1, 15, 16, 17, 18, 19, 20, 21, 22, 23, 24, 25, 26, 27, 28, 29, 30, 31, 32, 33, 34, 35, 36, 37, 38, 39] (by decide +kernel) (by decide +kernel)
set_option maxRecDepth 20000 in
theorem gX5_told_X5_fails : GoodIn wsX5_told (wsV RX5 107 RX5 yX5_fails wsX5_fails) := goodIn_app (goodIn_of _ (by decide +kernel)) ggX5_told_X5_fails
theorem dX5_told_0 : decode cX5_told 0 = .ok (.aload_n 0, 1) := by decide +kernel
theorem dX5_told_1 : decode cX5_told 1 = .ok (.iconst 0, 1) := by decide +kernel
theorem dX5_told_2 : decode cX5_told 2 = .ok (.putfield 74, 3) := by decide +kernel
theorem dX5_told_5 : decode cX5_told 5 = .ok (.aload_n 0, 1) := by decide +kernel
theorem dX5_told_6 : decode cX5_told 6 = .ok (.iload_n 2, 1) := by decide +kernel
theorem dX5_told_7 : decode cX5_told 7 = .ok (.invokevirtual 95, 3) := by decide +kernel
theorem dX5_told_10 : decode cX5_told 10 = .ok (.ifCond .eq 9, 3) := by decide +kernel
theorem dX5_told_13 : decode cX5_told 13 = .ok (.aload_n 1, 1) := by decide +kernel
theorem dX5_told_14 : decode cX5_told 14 = .ok (.iload_n 2, 1) := by decide +kernel
theorem dX5_told_15 : decode cX5_told 15 = .ok (.iaload, 1) := by decide +kernel
theorem dX5_told_16 : decode cX5_told 16 = .ok (.goto 8, 3) := by decide +kernel
theorem dX5_told_19 : decode cX5_told 19 = .ok (.aload_n 0, 1) := by decide +kernel
theorem dX5_told_20 : decode cX5_told 20 = .ok (.iconst 1, 1) := by decide +kernel
theorem dX5_told_21 : decode cX5_told 21 = .ok (.invokevirtual 107, 3) := by decide +kernel
theorem dX5_told_24 : decode cX5_told 24 = .ok (.ireturn, 1) := by decide +kernel
set_option maxRecDepth 20000 in
theorem ggX5_outcome_X5_told : GoodIn wsX5_outcome wsX5_told := goodIn_r _ [6, 7, 8, 9, 10, 5, 11, 12, 13, 14, 15, 16, 17, 18, 19, 20, 21, 22, 23, 24, 25, 26, 27, 28, 29, 30, 31, 32, 33, 34, 35, 36, 37, 38, 39, 40, 41, 42, 43, 44] (by decide +kernel) (by decide +kernel)
set_option maxRecDepth 20000 in
theorem gX5_outcome_X5_told : GoodIn wsX5_outcome (wsV RX5 111 RX5 yX5_told wsX5_told) := goodIn_app (goodIn_of _ (by decide +kernel)) ggX5_outcome_X5_told
theorem dX5_outcome_0 : decode cX5_outcome 0 = .ok (.aload_n 0, 1) := by decide +kernel
theorem dX5_outcome_1 : decode cX5_outcome 1 = .ok (.aload_n 0, 1) := by decide +kernel
theorem dX5_outcome_2 : decode cX5_outcome 2 = .ok (.getfield 32, 3) := by decide +kernel
theorem dX5_outcome_5 : decode cX5_outcome 5 = .ok (.iload_n 1, 1) := by decide +kernel
theorem dX5_outcome_6 : decode cX5_outcome 6 = .ok (.invokevirtual 111, 3) := by decide +kernel
theorem dX5_outcome_9 : decode cX5_outcome 9 = .ok (.ireturn, 1) := by decide +kernel
set_option maxRecDepth 20000 in
theorem ggX5_value_X5_isCall : GoodIn wsX5_value wsX5_isCall := goodIn_r _ [8, 9, 10, 11, 7, 12, 13, 14, 15, 16, 17, 18, 19, 20, 21, 22, 23, 24, 25, 26, 27, 28, 29, 30, 31, 32, 33, 34, 35, 36, 37] (by decide +kernel) (by decide +kernel)
set_option maxRecDepth 20000 in
theorem gX5_value_X5_isCall : GoodIn wsX5_value (wsV RX5 95 RX5 yX5_isCall wsX5_isCall) := goodIn_app (goodIn_of _ (by decide +kernel)) ggX5_value_X5_isCall
theorem dX5_value_0 : decode cX5_value 0 = .ok (.aload_n 0, 1) := by decide +kernel
theorem dX5_value_1 : decode cX5_value 1 = .ok (.aload_n 0, 1) := by decide +kernel
theorem dX5_value_2 : decode cX5_value 2 = .ok (.iload_n 1, 1) := by decide +kernel
theorem dX5_value_3 : decode cX5_value 3 = .ok (.invokevirtual 95, 3) := by decide +kernel
theorem dX5_value_6 : decode cX5_value 6 = .ok (.ifCond .ne 7, 3) := by decide +kernel
theorem dX5_value_9 : decode cX5_value 9 = .ok (.iconst 1, 1) := by decide +kernel
theorem dX5_value_10 : decode cX5_value 10 = .ok (.goto 17, 3) := by decide +kernel
theorem dX5_value_13 : decode cX5_value 13 = .ok (.aload_n 0, 1) := by decide +kernel
theorem dX5_value_14 : decode cX5_value 14 = .ok (.getfield 32, 3) := by decide +kernel
theorem dX5_value_17 : decode cX5_value 17 = .ok (.iload_n 1, 1) := by decide +kernel
theorem dX5_value_18 : decode cX5_value 18 = .ok (.iaload, 1) := by decide +kernel
theorem dX5_value_19 : decode cX5_value 19 = .ok (.ifCond .ne 7, 3) := by decide +kernel
theorem dX5_value_22 : decode cX5_value 22 = .ok (.iconst 0, 1) := by decide +kernel
theorem dX5_value_23 : decode cX5_value 23 = .ok (.goto 4, 3) := by decide +kernel
theorem dX5_value_26 : decode cX5_value 26 = .ok (.iconst 2, 1) := by decide +kernel
theorem dX5_value_27 : decode cX5_value 27 = .ok (.putfield 74, 3) := by decide +kernel
theorem dX5_value_30 : decode cX5_value 30 = .ok (.aload_n 0, 1) := by decide +kernel
theorem dX5_value_31 : decode cX5_value 31 = .ok (.getfield 74, 3) := by decide +kernel
theorem dX5_value_34 : decode cX5_value 34 = .ok (.ifCond .le 7, 3) := by decide +kernel
theorem dX5_value_37 : decode cX5_value 37 = .ok (.iconst 0, 1) := by decide +kernel
theorem dX5_value_38 : decode cX5_value 38 = .ok (.goto 9, 3) := by decide +kernel
theorem dX5_value_41 : decode cX5_value 41 = .ok (.aload_n 0, 1) := by decide +kernel
theorem dX5_value_42 : decode cX5_value 42 = .ok (.getfield 35, 3) := by decide +kernel
theorem dX5_value_45 : decode cX5_value 45 = .ok (.iload_n 1, 1) := by decide +kernel
theorem dX5_value_46 : decode cX5_value 46 = .ok (.iaload, 1) := by decide +kernel
theorem dX5_value_47 : decode cX5_value 47 = .ok (.ireturn, 1) := by decide +kernel
set_option maxRecDepth 20000 in
theorem ggX5_deadline_X5_told : GoodIn wsX5_deadline wsX5_told := goodIn_r _ [6, 7, 8, 9, 10, 5, 11, 12, 13, 14, 15, 16, 17, 18, 19, 20, 21, 22, 23, 24, 25, 26, 27, 28, 29, 30, 31, 32, 33, 34, 35, 36, 37, 38, 39, 40, 41, 42, 43, 44] (by decide +kernel) (by decide +kernel)
set_option maxRecDepth 20000 in
theorem gX5_deadline_X5_told : GoodIn wsX5_deadline (wsV RX5 111 RX5 yX5_told wsX5_told) := goodIn_app (goodIn_of _ (by decide +kernel)) ggX5_deadline_X5_told
theorem dX5_deadline_0 : decode cX5_deadline 0 = .ok (.aload_n 0, 1) := by decide +kernel
theorem dX5_deadline_1 : decode cX5_deadline 1 = .ok (.aload_n 0, 1) := by decide +kernel
theorem dX5_deadline_2 : decode cX5_deadline 2 = .ok (.getfield 23, 3) := by decide +kernel
theorem dX5_deadline_5 : decode cX5_deadline 5 = .ok (.iload_n 1, 1) := by decide +kernel
theorem dX5_deadline_6 : decode cX5_deadline 6 = .ok (.invokevirtual 111, 3) := by decide +kernel
theorem dX5_deadline_9 : decode cX5_deadline 9 = .ok (.ireturn, 1) := by decide +kernel
set_option maxRecDepth 20000 in
theorem ggX5_attempts_X5_told : GoodIn wsX5_attempts wsX5_told := goodIn_r _ [6, 7, 8, 9, 10, 5, 11, 12, 13, 14, 15, 16, 17, 18, 19, 20, 21, 22, 23, 24, 25, 26, 27, 28, 29, 30, 31, 32, 33, 34, 35, 36, 37, 38, 39, 40, 41, 42, 43, 44] (by decide +kernel) (by decide +kernel)
set_option maxRecDepth 20000 in
theorem gX5_attempts_X5_told : GoodIn wsX5_attempts (wsV RX5 111 RX5 yX5_told wsX5_told) := goodIn_app (goodIn_of _ (by decide +kernel)) ggX5_attempts_X5_told
theorem dX5_attempts_0 : decode cX5_attempts 0 = .ok (.aload_n 0, 1) := by decide +kernel
theorem dX5_attempts_1 : decode cX5_attempts 1 = .ok (.aload_n 0, 1) := by decide +kernel
theorem dX5_attempts_2 : decode cX5_attempts 2 = .ok (.getfield 26, 3) := by decide +kernel
theorem dX5_attempts_5 : decode cX5_attempts 5 = .ok (.iload_n 1, 1) := by decide +kernel
theorem dX5_attempts_6 : decode cX5_attempts 6 = .ok (.invokevirtual 111, 3) := by decide +kernel
theorem dX5_attempts_9 : decode cX5_attempts 9 = .ok (.ireturn, 1) := by decide +kernel
set_option maxRecDepth 20000 in
theorem ggX5_received_X5_told : GoodIn wsX5_received wsX5_told := goodIn_r _ [6, 7, 8, 9, 10, 5, 11, 12, 13, 14, 15, 16, 17, 18, 19, 20, 21, 22, 23, 24, 25, 26, 27, 28, 29, 30, 31, 32, 33, 34, 35, 36, 37, 38, 39, 40, 41, 42, 43, 44] (by decide +kernel) (by decide +kernel)
set_option maxRecDepth 20000 in
theorem gX5_received_X5_told : GoodIn wsX5_received (wsV RX5 111 RX5 yX5_told wsX5_told) := goodIn_app (goodIn_of _ (by decide +kernel)) ggX5_received_X5_told
theorem dX5_received_0 : decode cX5_received 0 = .ok (.aload_n 0, 1) := by decide +kernel
theorem dX5_received_1 : decode cX5_received 1 = .ok (.aload_n 0, 1) := by decide +kernel
theorem dX5_received_2 : decode cX5_received 2 = .ok (.getfield 38, 3) := by decide +kernel
theorem dX5_received_5 : decode cX5_received 5 = .ok (.iload_n 1, 1) := by decide +kernel
theorem dX5_received_6 : decode cX5_received 6 = .ok (.invokevirtual 111, 3) := by decide +kernel
theorem dX5_received_9 : decode cX5_received 9 = .ok (.ireturn, 1) := by decide +kernel
set_option maxRecDepth 20000 in
theorem ggX5_sum_X5_told : GoodIn wsX5_sum wsX5_told := goodIn_r _ [6, 7, 8, 9, 10, 5, 11, 12, 13, 14, 15, 16, 17, 18, 19, 20, 21, 22, 23, 24, 25, 26, 27, 28, 29, 30, 31, 32, 33, 34, 35, 36, 37, 38, 39, 40, 41, 42, 43, 44] (by decide +kernel) (by decide +kernel)
set_option maxRecDepth 20000 in
theorem gX5_sum_X5_told : GoodIn wsX5_sum (wsV RX5 111 RX5 yX5_told wsX5_told) := goodIn_app (goodIn_of _ (by decide +kernel)) ggX5_sum_X5_told
theorem dX5_sum_0 : decode cX5_sum 0 = .ok (.aload_n 0, 1) := by decide +kernel
theorem dX5_sum_1 : decode cX5_sum 1 = .ok (.aload_n 0, 1) := by decide +kernel
theorem dX5_sum_2 : decode cX5_sum 2 = .ok (.getfield 41, 3) := by decide +kernel
theorem dX5_sum_5 : decode cX5_sum 5 = .ok (.iload_n 1, 1) := by decide +kernel
theorem dX5_sum_6 : decode cX5_sum 6 = .ok (.invokevirtual 111, 3) := by decide +kernel
theorem dX5_sum_9 : decode cX5_sum 9 = .ok (.ireturn, 1) := by decide +kernel
theorem dX5_tokens_0 : decode cX5_tokens 0 = .ok (.aload_n 0, 1) := by decide +kernel
theorem dX5_tokens_1 : decode cX5_tokens 1 = .ok (.iconst 0, 1) := by decide +kernel
theorem dX5_tokens_2 : decode cX5_tokens 2 = .ok (.putfield 74, 3) := by decide +kernel
theorem dX5_tokens_5 : decode cX5_tokens 5 = .ok (.aload_n 0, 1) := by decide +kernel
theorem dX5_tokens_6 : decode cX5_tokens 6 = .ok (.getfield 7, 3) := by decide +kernel
theorem dX5_tokens_9 : decode cX5_tokens 9 = .ok (.ireturn, 1) := by decide +kernel
theorem dX5_itemsOf_0 : decode cX5_itemsOf 0 = .ok (.iload_n 0, 1) := by decide +kernel
theorem dX5_itemsOf_1 : decode cX5_itemsOf 1 = .ok (.ifCond .le 7, 3) := by decide +kernel
theorem dX5_itemsOf_4 : decode cX5_itemsOf 4 = .ok (.iload_n 0, 1) := by decide +kernel
theorem dX5_itemsOf_5 : decode cX5_itemsOf 5 = .ok (.goto 4, 3) := by decide +kernel
theorem dX5_itemsOf_8 : decode cX5_itemsOf 8 = .ok (.iconst 0, 1) := by decide +kernel
theorem dX5_itemsOf_9 : decode cX5_itemsOf 9 = .ok (.ireturn, 1) := by decide +kernel
set_option maxRecDepth 20000 in
theorem ggX5_answers_X5_sends : GoodIn wsX5_answers wsX5_sends := goodIn_r _ [7, 8, 9, 10, 11, 12, 13, 14, 15, 16, 17, 18, 19, 20, 21, 22, 23, 24, 25, 26, 27, 28, 29, 30, 31, 32, 33, 34, 35, 36, 37] (by decide +kernel) (by decide +kernel)
set_option maxRecDepth 20000 in
theorem gX5_answers_X5_sends : GoodIn wsX5_answers (wsV RX5 87 RX5 yX5_sends wsX5_sends) := goodIn_app (goodIn_of _ (by decide +kernel)) ggX5_answers_X5_sends
theorem dX5_answers_0 : decode cX5_answers 0 = .ok (.aload_n 0, 1) := by decide +kernel
theorem dX5_answers_1 : decode cX5_answers 1 = .ok (.iconst 1, 1) := by decide +kernel
theorem dX5_answers_2 : decode cX5_answers 2 = .ok (.iconst 3, 1) := by decide +kernel
theorem dX5_answers_3 : decode cX5_answers 3 = .ok (.iload_n 1, 1) := by decide +kernel
theorem dX5_answers_4 : decode cX5_answers 4 = .ok (.aload_n 0, 1) := by decide +kernel
theorem dX5_answers_5 : decode cX5_answers 5 = .ok (.getfield 53, 3) := by decide +kernel
theorem dX5_answers_8 : decode cX5_answers 8 = .ok (.iload_n 1, 1) := by decide +kernel
theorem dX5_answers_9 : decode cX5_answers 9 = .ok (.iaload, 1) := by decide +kernel
theorem dX5_answers_10 : decode cX5_answers 10 = .ok (.aload_n 0, 1) := by decide +kernel
theorem dX5_answers_11 : decode cX5_answers 11 = .ok (.getfield 56, 3) := by decide +kernel
theorem dX5_answers_14 : decode cX5_answers 14 = .ok (.iload_n 1, 1) := by decide +kernel
theorem dX5_answers_15 : decode cX5_answers 15 = .ok (.iaload, 1) := by decide +kernel
theorem dX5_answers_16 : decode cX5_answers 16 = .ok (.invokevirtual 87, 3) := by decide +kernel
theorem dX5_answers_19 : decode cX5_answers 19 = .ok (.return_, 1) := by decide +kernel
set_option maxRecDepth 20000 in
theorem ggX5_settles_X5_answers : GoodIn wsX5_settles wsX5_answers := goodIn_r _ [8, 2, 3, 9, 10, 11, 7, 12, 13, 14, 15, 16, 17, 18, 19, 20, 21, 22, 23, 24, 25, 26, 27, 28, 29, 30, 31, 32, 33, 34, 35, 36, 37, 38, 39, 40, 41, 42] (by decide +kernel) (by decide +kernel)
set_option maxRecDepth 20000 in
theorem gX5_settles_X5_answers : GoodIn wsX5_settles (wsV RX5 115 RX5 yX5_answers wsX5_answers) := goodIn_app (goodIn_of _ (by decide +kernel)) ggX5_settles_X5_answers
theorem dX5_settles_0 : decode cX5_settles 0 = .ok (.aload_n 0, 1) := by decide +kernel
theorem dX5_settles_1 : decode cX5_settles 1 = .ok (.getfield 44, 3) := by decide +kernel
theorem dX5_settles_4 : decode cX5_settles 4 = .ok (.iload_n 1, 1) := by decide +kernel
theorem dX5_settles_5 : decode cX5_settles 5 = .ok (.iconst 2, 1) := by decide +kernel
theorem dX5_settles_6 : decode cX5_settles 6 = .ok (.iastore, 1) := by decide +kernel
theorem dX5_settles_7 : decode cX5_settles 7 = .ok (.aload_n 0, 1) := by decide +kernel
theorem dX5_settles_8 : decode cX5_settles 8 = .ok (.getfield 53, 3) := by decide +kernel
theorem dX5_settles_11 : decode cX5_settles 11 = .ok (.iload_n 1, 1) := by decide +kernel
theorem dX5_settles_12 : decode cX5_settles 12 = .ok (.iload_n 2, 1) := by decide +kernel
theorem dX5_settles_13 : decode cX5_settles 13 = .ok (.iastore, 1) := by decide +kernel
theorem dX5_settles_14 : decode cX5_settles 14 = .ok (.aload_n 0, 1) := by decide +kernel
theorem dX5_settles_15 : decode cX5_settles 15 = .ok (.getfield 56, 3) := by decide +kernel
theorem dX5_settles_18 : decode cX5_settles 18 = .ok (.iload_n 1, 1) := by decide +kernel
theorem dX5_settles_19 : decode cX5_settles 19 = .ok (.iload_n 3, 1) := by decide +kernel
theorem dX5_settles_20 : decode cX5_settles 20 = .ok (.iastore, 1) := by decide +kernel
theorem dX5_settles_21 : decode cX5_settles 21 = .ok (.aload_n 0, 1) := by decide +kernel
theorem dX5_settles_22 : decode cX5_settles 22 = .ok (.iload_n 1, 1) := by decide +kernel
theorem dX5_settles_23 : decode cX5_settles 23 = .ok (.invokevirtual 115, 3) := by decide +kernel
theorem dX5_settles_26 : decode cX5_settles 26 = .ok (.return_, 1) := by decide +kernel
set_option maxRecDepth 20000 in
theorem ggX5_work_X5_isCall : GoodIn wsX5_work wsX5_isCall := goodIn_r _ [12, 13, 14, 15, 11, 16, 39, 40, 41, 42, 43, 44, 45, 46, 47, 48, 49, 50, 51, 52, 53, 54, 55, 56, 57, 58, 59, 60, 61, 62, 63] (by decide +kernel) (by decide +kernel)
set_option maxRecDepth 20000 in
theorem gX5_work_X5_isCall : GoodIn wsX5_work (wsV RX5 95 RX5 yX5_isCall wsX5_isCall) := goodIn_app (goodIn_of _ (by decide +kernel)) ggX5_work_X5_isCall
set_option maxRecDepth 20000 in
theorem ggX5_work_X5_itemsOf : GoodIn wsX5_work wsX5_itemsOf := goodIn_r _ [19] (by decide +kernel) (by decide +kernel)
set_option maxRecDepth 20000 in
theorem gX5_work_X5_itemsOf : GoodIn wsX5_work (va_wsS RX5 117 yX5_itemsOf wsX5_itemsOf) := goodIn_app (goodIn_of _ (by decide +kernel)) ggX5_work_X5_itemsOf
set_option maxRecDepth 20000 in
theorem ggX5_work_X5_sends : GoodIn wsX5_work wsX5_sends := goodIn_r _ [23, 24, 25, 26, 27, 28, 39, 40, 41, 42, 43, 44, 45, 46, 47, 48, 49, 50, 51, 52, 53, 54, 55, 56, 57, 58, 59, 60, 61, 62, 63] (by decide +kernel) (by decide +kernel)
set_option maxRecDepth 20000 in
theorem gX5_work_X5_sends : GoodIn wsX5_work (wsV RX5 87 RX5 yX5_sends wsX5_sends) := goodIn_app (goodIn_of _ (by decide +kernel)) ggX5_work_X5_sends
set_option maxRecDepth 20000 in
theorem ggX5_work_X5_settles : GoodIn wsX5_work wsX5_settles := goodIn_r _ [32, 5, 33, 34, 35, 36, 37, 11, 38, 20, 21, 22, 23, 24, 25, 26, 27, 28, 39, 40, 41, 42, 43, 44, 45, 46, 47, 48, 49, 50, 51, 52, 53, 54, 55, 56, 57, 58, 59, 60, 61, 62, 63] (by decide +kernel) (by decide +kernel)
set_option maxRecDepth 20000 in
theorem gX5_work_X5_settles : GoodIn wsX5_work (wsV RX5 120 RX5 yX5_settles wsX5_settles) := goodIn_app (goodIn_of _ (by decide +kernel)) ggX5_work_X5_settles
theorem dX5_work_0 : decode cX5_work 0 = .ok (.aload_n 0, 1) := by decide +kernel
theorem dX5_work_1 : decode cX5_work 1 = .ok (.aload_n 0, 1) := by decide +kernel
theorem dX5_work_2 : decode cX5_work 2 = .ok (.iload_n 1, 1) := by decide +kernel
theorem dX5_work_3 : decode cX5_work 3 = .ok (.invokevirtual 95, 3) := by decide +kernel
theorem dX5_work_6 : decode cX5_work 6 = .ok (.ifCond .eq 7, 3) := by decide +kernel
theorem dX5_work_9 : decode cX5_work 9 = .ok (.iconst 0, 1) := by decide +kernel
theorem dX5_work_10 : decode cX5_work 10 = .ok (.goto 4, 3) := by decide +kernel
theorem dX5_work_13 : decode cX5_work 13 = .ok (.iconst 1, 1) := by decide +kernel
theorem dX5_work_14 : decode cX5_work 14 = .ok (.putfield 74, 3) := by decide +kernel
theorem dX5_work_17 : decode cX5_work 17 = .ok (.aload_n 0, 1) := by decide +kernel
theorem dX5_work_18 : decode cX5_work 18 = .ok (.getfield 74, 3) := by decide +kernel
theorem dX5_work_21 : decode cX5_work 21 = .ok (.ifCond .le 5, 3) := by decide +kernel
theorem dX5_work_24 : decode cX5_work 24 = .ok (.iconst 0, 1) := by decide +kernel
theorem dX5_work_25 : decode cX5_work 25 = .ok (.ireturn, 1) := by decide +kernel
theorem dX5_work_26 : decode cX5_work 26 = .ok (.aload_n 0, 1) := by decide +kernel
theorem dX5_work_27 : decode cX5_work 27 = .ok (.getfield 17, 3) := by decide +kernel
theorem dX5_work_30 : decode cX5_work 30 = .ok (.iload_n 1, 1) := by decide +kernel
theorem dX5_work_31 : decode cX5_work 31 = .ok (.iaload, 1) := by decide +kernel
theorem dX5_work_32 : decode cX5_work 32 = .ok (.istore_n 2, 1) := by decide +kernel
theorem dX5_work_33 : decode cX5_work 33 = .ok (.aload_n 0, 1) := by decide +kernel
theorem dX5_work_34 : decode cX5_work 34 = .ok (.getfield 13, 3) := by decide +kernel
theorem dX5_work_37 : decode cX5_work 37 = .ok (.iload_n 1, 1) := by decide +kernel
theorem dX5_work_38 : decode cX5_work 38 = .ok (.iaload, 1) := by decide +kernel
theorem dX5_work_39 : decode cX5_work 39 = .ok (.iconst 3, 1) := by decide +kernel
theorem dX5_work_40 : decode cX5_work 40 = .ok (.if_icmp .ne 20, 3) := by decide +kernel
theorem dX5_work_43 : decode cX5_work 43 = .ok (.aload_n 0, 1) := by decide +kernel
theorem dX5_work_44 : decode cX5_work 44 = .ok (.getfield 50, 3) := by decide +kernel
theorem dX5_work_47 : decode cX5_work 47 = .ok (.iload_n 1, 1) := by decide +kernel
theorem dX5_work_48 : decode cX5_work 48 = .ok (.iaload, 1) := by decide +kernel
theorem dX5_work_49 : decode cX5_work 49 = .ok (.iload_n 2, 1) := by decide +kernel
theorem dX5_work_50 : decode cX5_work 50 = .ok (.invokestatic 117, 3) := by decide +kernel
theorem dX5_work_53 : decode cX5_work 53 = .ok (.if_icmp .ge 7, 3) := by decide +kernel
theorem dX5_work_56 : decode cX5_work 56 = .ok (.iconst 1, 1) := by decide +kernel
theorem dX5_work_57 : decode cX5_work 57 = .ok (.goto 4, 3) := by decide +kernel
theorem dX5_work_60 : decode cX5_work 60 = .ok (.iconst 0, 1) := by decide +kernel
theorem dX5_work_61 : decode cX5_work 61 = .ok (.istore_n 3, 1) := by decide +kernel
theorem dX5_work_62 : decode cX5_work 62 = .ok (.aload_n 0, 1) := by decide +kernel
theorem dX5_work_63 : decode cX5_work 63 = .ok (.aload_n 0, 1) := by decide +kernel
theorem dX5_work_64 : decode cX5_work 64 = .ok (.getfield 44, 3) := by decide +kernel
theorem dX5_work_67 : decode cX5_work 67 = .ok (.iload_n 1, 1) := by decide +kernel
theorem dX5_work_68 : decode cX5_work 68 = .ok (.iaload, 1) := by decide +kernel
theorem dX5_work_69 : decode cX5_work 69 = .ok (.iconst 1, 1) := by decide +kernel
theorem dX5_work_70 : decode cX5_work 70 = .ok (.if_icmp .ne 16, 3) := by decide +kernel
theorem dX5_work_73 : decode cX5_work 73 = .ok (.iload_n 3, 1) := by decide +kernel
theorem dX5_work_74 : decode cX5_work 74 = .ok (.ifCond .eq 16, 3) := by decide +kernel
theorem dX5_work_77 : decode cX5_work 77 = .ok (.aload_n 0, 1) := by decide +kernel
theorem dX5_work_78 : decode cX5_work 78 = .ok (.getfield 47, 3) := by decide +kernel
theorem dX5_work_81 : decode cX5_work 81 = .ok (.iload_n 1, 1) := by decide +kernel
theorem dX5_work_82 : decode cX5_work 82 = .ok (.iaload, 1) := by decide +kernel
theorem dX5_work_83 : decode cX5_work 83 = .ok (.ifCond .ne 7, 3) := by decide +kernel
theorem dX5_work_86 : decode cX5_work 86 = .ok (.iconst 2, 1) := by decide +kernel
theorem dX5_work_87 : decode cX5_work 87 = .ok (.goto 4, 3) := by decide +kernel
theorem dX5_work_90 : decode cX5_work 90 = .ok (.iconst 0, 1) := by decide +kernel
theorem dX5_work_91 : decode cX5_work 91 = .ok (.putfield 74, 3) := by decide +kernel
theorem dX5_work_94 : decode cX5_work 94 = .ok (.aload_n 0, 1) := by decide +kernel
theorem dX5_work_95 : decode cX5_work 95 = .ok (.getfield 74, 3) := by decide +kernel
theorem dX5_work_98 : decode cX5_work 98 = .ok (.ifCond .le 5, 3) := by decide +kernel
theorem dX5_work_101 : decode cX5_work 101 = .ok (.iconst 0, 1) := by decide +kernel
theorem dX5_work_102 : decode cX5_work 102 = .ok (.ireturn, 1) := by decide +kernel
theorem dX5_work_103 : decode cX5_work 103 = .ok (.iload_n 3, 1) := by decide +kernel
theorem dX5_work_104 : decode cX5_work 104 = .ok (.ifCond .eq 47, 3) := by decide +kernel
theorem dX5_work_107 : decode cX5_work 107 = .ok (.aload_n 0, 1) := by decide +kernel
theorem dX5_work_108 : decode cX5_work 108 = .ok (.iconst 1, 1) := by decide +kernel
theorem dX5_work_109 : decode cX5_work 109 = .ok (.iconst 4, 1) := by decide +kernel
theorem dX5_work_110 : decode cX5_work 110 = .ok (.iload_n 1, 1) := by decide +kernel
theorem dX5_work_111 : decode cX5_work 111 = .ok (.aload_n 0, 1) := by decide +kernel
theorem dX5_work_112 : decode cX5_work 112 = .ok (.getfield 50, 3) := by decide +kernel
theorem dX5_work_115 : decode cX5_work 115 = .ok (.iload_n 1, 1) := by decide +kernel
theorem dX5_work_116 : decode cX5_work 116 = .ok (.iaload, 1) := by decide +kernel
theorem dX5_work_117 : decode cX5_work 117 = .ok (.iload_n 2, 1) := by decide +kernel
theorem dX5_work_118 : decode cX5_work 118 = .ok (.aload_n 0, 1) := by decide +kernel
theorem dX5_work_119 : decode cX5_work 119 = .ok (.getfield 50, 3) := by decide +kernel
theorem dX5_work_122 : decode cX5_work 122 = .ok (.iload_n 1, 1) := by decide +kernel
theorem dX5_work_123 : decode cX5_work 123 = .ok (.iaload, 1) := by decide +kernel
theorem dX5_work_124 : decode cX5_work 124 = .ok (.isub, 1) := by decide +kernel
theorem dX5_work_125 : decode cX5_work 125 = .ok (.invokevirtual 87, 3) := by decide +kernel
theorem dX5_work_128 : decode cX5_work 128 = .ok (.aload_n 0, 1) := by decide +kernel
theorem dX5_work_129 : decode cX5_work 129 = .ok (.getfield 50, 3) := by decide +kernel
theorem dX5_work_132 : decode cX5_work 132 = .ok (.iload_n 1, 1) := by decide +kernel
theorem dX5_work_133 : decode cX5_work 133 = .ok (.dup2, 1) := by decide +kernel
theorem dX5_work_134 : decode cX5_work 134 = .ok (.iaload, 1) := by decide +kernel
theorem dX5_work_135 : decode cX5_work 135 = .ok (.iconst 1, 1) := by decide +kernel
theorem dX5_work_136 : decode cX5_work 136 = .ok (.iadd, 1) := by decide +kernel
theorem dX5_work_137 : decode cX5_work 137 = .ok (.iastore, 1) := by decide +kernel
theorem dX5_work_138 : decode cX5_work 138 = .ok (.aload_n 0, 1) := by decide +kernel
theorem dX5_work_139 : decode cX5_work 139 = .ok (.getfield 47, 3) := by decide +kernel
theorem dX5_work_142 : decode cX5_work 142 = .ok (.iload_n 1, 1) := by decide +kernel
theorem dX5_work_143 : decode cX5_work 143 = .ok (.dup2, 1) := by decide +kernel
theorem dX5_work_144 : decode cX5_work 144 = .ok (.iaload, 1) := by decide +kernel
theorem dX5_work_145 : decode cX5_work 145 = .ok (.iconst 1, 1) := by decide +kernel
theorem dX5_work_146 : decode cX5_work 146 = .ok (.isub, 1) := by decide +kernel
theorem dX5_work_147 : decode cX5_work 147 = .ok (.iastore, 1) := by decide +kernel
theorem dX5_work_148 : decode cX5_work 148 = .ok (.goto 87, 3) := by decide +kernel
theorem dX5_work_151 : decode cX5_work 151 = .ok (.aload_n 0, 1) := by decide +kernel
theorem dX5_work_152 : decode cX5_work 152 = .ok (.getfield 13, 3) := by decide +kernel
theorem dX5_work_155 : decode cX5_work 155 = .ok (.iload_n 1, 1) := by decide +kernel
theorem dX5_work_156 : decode cX5_work 156 = .ok (.iaload, 1) := by decide +kernel
theorem dX5_work_157 : decode cX5_work 157 = .ok (.ifCond .ne 15, 3) := by decide +kernel
theorem dX5_work_160 : decode cX5_work 160 = .ok (.aload_n 0, 1) := by decide +kernel
theorem dX5_work_161 : decode cX5_work 161 = .ok (.iload_n 1, 1) := by decide +kernel
theorem dX5_work_162 : decode cX5_work 162 = .ok (.iconst 0, 1) := by decide +kernel
theorem dX5_work_163 : decode cX5_work 163 = .ok (.iload_n 2, 1) := by decide +kernel
theorem dX5_work_164 : decode cX5_work 164 = .ok (.iload_n 2, 1) := by decide +kernel
theorem dX5_work_165 : decode cX5_work 165 = .ok (.imul, 1) := by decide +kernel
theorem dX5_work_166 : decode cX5_work 166 = .ok (.invokevirtual 120, 3) := by decide +kernel
theorem dX5_work_169 : decode cX5_work 169 = .ok (.goto 66, 3) := by decide +kernel
theorem dX5_work_172 : decode cX5_work 172 = .ok (.aload_n 0, 1) := by decide +kernel
theorem dX5_work_173 : decode cX5_work 173 = .ok (.getfield 13, 3) := by decide +kernel
theorem dX5_work_176 : decode cX5_work 176 = .ok (.iload_n 1, 1) := by decide +kernel
theorem dX5_work_177 : decode cX5_work 177 = .ok (.iaload, 1) := by decide +kernel
theorem dX5_work_178 : decode cX5_work 178 = .ok (.iconst 1, 1) := by decide +kernel
theorem dX5_work_179 : decode cX5_work 179 = .ok (.if_icmp .ne 26, 3) := by decide +kernel
theorem dX5_work_182 : decode cX5_work 182 = .ok (.aload_n 0, 1) := by decide +kernel
theorem dX5_work_183 : decode cX5_work 183 = .ok (.dup, 1) := by decide +kernel
theorem dX5_work_184 : decode cX5_work 184 = .ok (.getfield 124, 3) := by decide +kernel
theorem dX5_work_187 : decode cX5_work 187 = .ok (.iload_n 2, 1) := by decide +kernel
theorem dX5_work_188 : decode cX5_work 188 = .ok (.iadd, 1) := by decide +kernel
theorem dX5_work_189 : decode cX5_work 189 = .ok (.putfield 124, 3) := by decide +kernel
theorem dX5_work_192 : decode cX5_work 192 = .ok (.aload_n 0, 1) := by decide +kernel
theorem dX5_work_193 : decode cX5_work 193 = .ok (.iload_n 1, 1) := by decide +kernel
theorem dX5_work_194 : decode cX5_work 194 = .ok (.iconst 0, 1) := by decide +kernel
theorem dX5_work_195 : decode cX5_work 195 = .ok (.aload_n 0, 1) := by decide +kernel
theorem dX5_work_196 : decode cX5_work 196 = .ok (.getfield 124, 3) := by decide +kernel
theorem dX5_work_199 : decode cX5_work 199 = .ok (.invokevirtual 120, 3) := by decide +kernel
theorem dX5_work_202 : decode cX5_work 202 = .ok (.goto 33, 3) := by decide +kernel
theorem dX5_work_205 : decode cX5_work 205 = .ok (.aload_n 0, 1) := by decide +kernel
theorem dX5_work_206 : decode cX5_work 206 = .ok (.getfield 13, 3) := by decide +kernel
theorem dX5_work_209 : decode cX5_work 209 = .ok (.iload_n 1, 1) := by decide +kernel
theorem dX5_work_210 : decode cX5_work 210 = .ok (.iaload, 1) := by decide +kernel
theorem dX5_work_211 : decode cX5_work 211 = .ok (.iconst 2, 1) := by decide +kernel
theorem dX5_work_212 : decode cX5_work 212 = .ok (.if_icmp .ne 13, 3) := by decide +kernel
theorem dX5_work_215 : decode cX5_work 215 = .ok (.aload_n 0, 1) := by decide +kernel
theorem dX5_work_216 : decode cX5_work 216 = .ok (.iload_n 1, 1) := by decide +kernel
theorem dX5_work_217 : decode cX5_work 217 = .ok (.iconst 3, 1) := by decide +kernel
theorem dX5_work_218 : decode cX5_work 218 = .ok (.iconst 0, 1) := by decide +kernel
theorem dX5_work_219 : decode cX5_work 219 = .ok (.invokevirtual 120, 3) := by decide +kernel
theorem dX5_work_222 : decode cX5_work 222 = .ok (.goto 13, 3) := by decide +kernel
theorem dX5_work_225 : decode cX5_work 225 = .ok (.aload_n 0, 1) := by decide +kernel
theorem dX5_work_226 : decode cX5_work 226 = .ok (.iload_n 1, 1) := by decide +kernel
theorem dX5_work_227 : decode cX5_work 227 = .ok (.iconst 0, 1) := by decide +kernel
theorem dX5_work_228 : decode cX5_work 228 = .ok (.iload_n 2, 1) := by decide +kernel
theorem dX5_work_229 : decode cX5_work 229 = .ok (.invokestatic 117, 3) := by decide +kernel
theorem dX5_work_232 : decode cX5_work 232 = .ok (.invokevirtual 120, 3) := by decide +kernel
theorem dX5_work_235 : decode cX5_work 235 = .ok (.aload_n 0, 1) := by decide +kernel
theorem dX5_work_236 : decode cX5_work 236 = .ok (.getfield 44, 3) := by decide +kernel
theorem dX5_work_239 : decode cX5_work 239 = .ok (.iload_n 1, 1) := by decide +kernel
theorem dX5_work_240 : decode cX5_work 240 = .ok (.iaload, 1) := by decide +kernel
theorem dX5_work_241 : decode cX5_work 241 = .ok (.ireturn, 1) := by decide +kernel
set_option maxRecDepth 20000 in
theorem ggX5_task_X5_told : GoodIn wsX5_task wsX5_told := goodIn_r _ [6, 7, 8, 9, 10, 5, 11, 12, 13, 14, 15, 16, 17, 18, 19, 20, 21, 22, 23, 24, 25, 26, 27, 28, 29, 30, 31, 32, 33, 34, 35, 36, 37, 38, 39, 40, 41, 42, 43, 44] (by decide +kernel) (by decide +kernel)
set_option maxRecDepth 20000 in
theorem gX5_task_X5_told : GoodIn wsX5_task (wsV RX5 111 RX5 yX5_told wsX5_told) := goodIn_app (goodIn_of _ (by decide +kernel)) ggX5_task_X5_told
theorem dX5_task_0 : decode cX5_task 0 = .ok (.aload_n 0, 1) := by decide +kernel
theorem dX5_task_1 : decode cX5_task 1 = .ok (.aload_n 0, 1) := by decide +kernel
theorem dX5_task_2 : decode cX5_task 2 = .ok (.getfield 44, 3) := by decide +kernel
theorem dX5_task_5 : decode cX5_task 5 = .ok (.iload_n 1, 1) := by decide +kernel
theorem dX5_task_6 : decode cX5_task 6 = .ok (.invokevirtual 111, 3) := by decide +kernel
theorem dX5_task_9 : decode cX5_task 9 = .ok (.ireturn, 1) := by decide +kernel
set_option maxRecDepth 20000 in
theorem ggX5_credits_X5_told : GoodIn wsX5_credits wsX5_told := goodIn_r _ [6, 7, 8, 9, 10, 5, 11, 12, 13, 14, 15, 16, 17, 18, 19, 20, 21, 22, 23, 24, 25, 26, 27, 28, 29, 30, 31, 32, 33, 34, 35, 36, 37, 38, 39, 40, 41, 42, 43, 44] (by decide +kernel) (by decide +kernel)
set_option maxRecDepth 20000 in
theorem gX5_credits_X5_told : GoodIn wsX5_credits (wsV RX5 111 RX5 yX5_told wsX5_told) := goodIn_app (goodIn_of _ (by decide +kernel)) ggX5_credits_X5_told
theorem dX5_credits_0 : decode cX5_credits 0 = .ok (.aload_n 0, 1) := by decide +kernel
theorem dX5_credits_1 : decode cX5_credits 1 = .ok (.aload_n 0, 1) := by decide +kernel
theorem dX5_credits_2 : decode cX5_credits 2 = .ok (.getfield 47, 3) := by decide +kernel
theorem dX5_credits_5 : decode cX5_credits 5 = .ok (.iload_n 1, 1) := by decide +kernel
theorem dX5_credits_6 : decode cX5_credits 6 = .ok (.invokevirtual 111, 3) := by decide +kernel
theorem dX5_credits_9 : decode cX5_credits 9 = .ok (.ireturn, 1) := by decide +kernel
theorem dX5_total_0 : decode cX5_total 0 = .ok (.aload_n 0, 1) := by decide +kernel
theorem dX5_total_1 : decode cX5_total 1 = .ok (.iconst 0, 1) := by decide +kernel
theorem dX5_total_2 : decode cX5_total 2 = .ok (.putfield 74, 3) := by decide +kernel
theorem dX5_total_5 : decode cX5_total 5 = .ok (.aload_n 0, 1) := by decide +kernel
theorem dX5_total_6 : decode cX5_total 6 = .ok (.getfield 124, 3) := by decide +kernel
theorem dX5_total_9 : decode cX5_total 9 = .ok (.ireturn, 1) := by decide +kernel
set_option maxRecDepth 20000 in
theorem ggX5_local_X5_in : GoodIn wsX5_local wsX5_in := goodIn_r _ [6] (by decide +kernel) (by decide +kernel)
set_option maxRecDepth 20000 in
theorem gX5_local_X5_in : GoodIn wsX5_local (va_wsS RX5 80 yX5_in wsX5_in) := goodIn_app (goodIn_of _ (by decide +kernel)) ggX5_local_X5_in
set_option maxRecDepth 20000 in
theorem ggX5_local_X5_itemsOf : GoodIn wsX5_local wsX5_itemsOf := goodIn_r _ [9] (by decide +kernel) (by decide +kernel)
set_option maxRecDepth 20000 in
theorem gX5_local_X5_itemsOf : GoodIn wsX5_local (va_wsS RX5 117 yX5_itemsOf wsX5_itemsOf) := goodIn_app (goodIn_of _ (by decide +kernel)) ggX5_local_X5_itemsOf
theorem dX5_local_0 : decode cX5_local 0 = .ok (.aload_n 0, 1) := by decide +kernel
theorem dX5_local_1 : decode cX5_local 1 = .ok (.iload_n 1, 1) := by decide +kernel
theorem dX5_local_2 : decode cX5_local 2 = .ok (.iconst 0, 1) := by decide +kernel
theorem dX5_local_3 : decode cX5_local 3 = .ok (.iconst 3, 1) := by decide +kernel
theorem dX5_local_4 : decode cX5_local 4 = .ok (.invokestatic 80, 3) := by decide +kernel
theorem dX5_local_7 : decode cX5_local 7 = .ok (.ifCond .eq 16, 3) := by decide +kernel
theorem dX5_local_10 : decode cX5_local 10 = .ok (.iload_n 2, 1) := by decide +kernel
theorem dX5_local_11 : decode cX5_local 11 = .ok (.sipush (-1000), 3) := by decide +kernel
theorem dX5_local_14 : decode cX5_local 14 = .ok (.sipush 1000, 3) := by decide +kernel
theorem dX5_local_17 : decode cX5_local 17 = .ok (.invokestatic 80, 3) := by decide +kernel
theorem dX5_local_20 : decode cX5_local 20 = .ok (.ifCond .ne 7, 3) := by decide +kernel
theorem dX5_local_23 : decode cX5_local 23 = .ok (.iconst 1, 1) := by decide +kernel
theorem dX5_local_24 : decode cX5_local 24 = .ok (.goto 13, 3) := by decide +kernel
theorem dX5_local_27 : decode cX5_local 27 = .ok (.iload_n 1, 1) := by decide +kernel
theorem dX5_local_28 : decode cX5_local 28 = .ok (.iconst 2, 1) := by decide +kernel
theorem dX5_local_29 : decode cX5_local 29 = .ok (.if_icmp .ne 7, 3) := by decide +kernel
theorem dX5_local_32 : decode cX5_local 32 = .ok (.iconst 2, 1) := by decide +kernel
theorem dX5_local_33 : decode cX5_local 33 = .ok (.goto 4, 3) := by decide +kernel
theorem dX5_local_36 : decode cX5_local 36 = .ok (.iconst 0, 1) := by decide +kernel
theorem dX5_local_37 : decode cX5_local 37 = .ok (.putfield 74, 3) := by decide +kernel
theorem dX5_local_40 : decode cX5_local 40 = .ok (.aload_n 0, 1) := by decide +kernel
theorem dX5_local_41 : decode cX5_local 41 = .ok (.getfield 74, 3) := by decide +kernel
theorem dX5_local_44 : decode cX5_local 44 = .ok (.ifCond .le 5, 3) := by decide +kernel
theorem dX5_local_47 : decode cX5_local 47 = .ok (.iconst 0, 1) := by decide +kernel
theorem dX5_local_48 : decode cX5_local 48 = .ok (.ireturn, 1) := by decide +kernel
theorem dX5_local_49 : decode cX5_local 49 = .ok (.iload_n 1, 1) := by decide +kernel
theorem dX5_local_50 : decode cX5_local 50 = .ok (.ifCond .ne 9, 3) := by decide +kernel
theorem dX5_local_53 : decode cX5_local 53 = .ok (.iload_n 2, 1) := by decide +kernel
theorem dX5_local_54 : decode cX5_local 54 = .ok (.iload_n 2, 1) := by decide +kernel
theorem dX5_local_55 : decode cX5_local 55 = .ok (.imul, 1) := by decide +kernel
theorem dX5_local_56 : decode cX5_local 56 = .ok (.goto 21, 3) := by decide +kernel
theorem dX5_local_59 : decode cX5_local 59 = .ok (.iload_n 1, 1) := by decide +kernel
theorem dX5_local_60 : decode cX5_local 60 = .ok (.iconst 1, 1) := by decide +kernel
theorem dX5_local_61 : decode cX5_local 61 = .ok (.if_icmp .ne 12, 3) := by decide +kernel
theorem dX5_local_64 : decode cX5_local 64 = .ok (.aload_n 0, 1) := by decide +kernel
theorem dX5_local_65 : decode cX5_local 65 = .ok (.getfield 124, 3) := by decide +kernel
theorem dX5_local_68 : decode cX5_local 68 = .ok (.iload_n 2, 1) := by decide +kernel
theorem dX5_local_69 : decode cX5_local 69 = .ok (.iadd, 1) := by decide +kernel
theorem dX5_local_70 : decode cX5_local 70 = .ok (.goto 7, 3) := by decide +kernel
theorem dX5_local_73 : decode cX5_local 73 = .ok (.iload_n 2, 1) := by decide +kernel
theorem dX5_local_74 : decode cX5_local 74 = .ok (.invokestatic 117, 3) := by decide +kernel
theorem dX5_local_77 : decode cX5_local 77 = .ok (.ireturn, 1) := by decide +kernel
set_option maxRecDepth 20000 in
theorem ggX5_arrivesAtServer_X5_answers : GoodIn wsX5_arrivesAtServer wsX5_answers := goodIn_r _ [9, 10, 11, 12, 13, 14, 8, 15, 16, 17, 18, 19, 20, 21, 22, 23, 24, 25, 26, 27, 28, 29, 30, 31, 32, 33, 34, 35, 36, 37, 38, 39, 40, 41, 42, 43, 44, 45] (by decide +kernel) (by decide +kernel)
set_option maxRecDepth 20000 in
theorem gX5_arrivesAtServer_X5_answers : GoodIn wsX5_arrivesAtServer (wsV RX5 115 RX5 yX5_answers wsX5_answers) := goodIn_app (goodIn_of _ (by decide +kernel)) ggX5_arrivesAtServer_X5_answers
theorem dX5_arrivesAtServer_0 : decode cX5_arrivesAtServer 0 = .ok (.iload_n 1, 1) := by decide +kernel
theorem dX5_arrivesAtServer_1 : decode cX5_arrivesAtServer 1 = .ok (.ifCond .ne 42, 3) := by decide +kernel
theorem dX5_arrivesAtServer_4 : decode cX5_arrivesAtServer 4 = .ok (.aload_n 0, 1) := by decide +kernel
theorem dX5_arrivesAtServer_5 : decode cX5_arrivesAtServer 5 = .ok (.getfield 44, 3) := by decide +kernel
theorem dX5_arrivesAtServer_8 : decode cX5_arrivesAtServer 8 = .ok (.iload_n 2, 1) := by decide +kernel
theorem dX5_arrivesAtServer_9 : decode cX5_arrivesAtServer 9 = .ok (.iaload, 1) := by decide +kernel
theorem dX5_arrivesAtServer_10 : decode cX5_arrivesAtServer 10 = .ok (.ifCond .ne 33, 3) := by decide +kernel
theorem dX5_arrivesAtServer_13 : decode cX5_arrivesAtServer 13 = .ok (.aload_n 0, 1) := by decide +kernel
theorem dX5_arrivesAtServer_14 : decode cX5_arrivesAtServer 14 = .ok (.getfield 84, 3) := by decide +kernel
theorem dX5_arrivesAtServer_17 : decode cX5_arrivesAtServer 17 = .ok (.aload_n 0, 1) := by decide +kernel
theorem dX5_arrivesAtServer_18 : decode cX5_arrivesAtServer 18 = .ok (.getfield 23, 3) := by decide +kernel
theorem dX5_arrivesAtServer_21 : decode cX5_arrivesAtServer 21 = .ok (.iload_n 2, 1) := by decide +kernel
theorem dX5_arrivesAtServer_22 : decode cX5_arrivesAtServer 22 = .ok (.iaload, 1) := by decide +kernel
theorem dX5_arrivesAtServer_23 : decode cX5_arrivesAtServer 23 = .ok (.if_icmp .ge 20, 3) := by decide +kernel
theorem dX5_arrivesAtServer_26 : decode cX5_arrivesAtServer 26 = .ok (.aload_n 0, 1) := by decide +kernel
theorem dX5_arrivesAtServer_27 : decode cX5_arrivesAtServer 27 = .ok (.getfield 44, 3) := by decide +kernel
theorem dX5_arrivesAtServer_30 : decode cX5_arrivesAtServer 30 = .ok (.iload_n 2, 1) := by decide +kernel
theorem dX5_arrivesAtServer_31 : decode cX5_arrivesAtServer 31 = .ok (.iconst 1, 1) := by decide +kernel
theorem dX5_arrivesAtServer_32 : decode cX5_arrivesAtServer 32 = .ok (.iastore, 1) := by decide +kernel
theorem dX5_arrivesAtServer_33 : decode cX5_arrivesAtServer 33 = .ok (.aload_n 0, 1) := by decide +kernel
theorem dX5_arrivesAtServer_34 : decode cX5_arrivesAtServer 34 = .ok (.getfield 47, 3) := by decide +kernel
theorem dX5_arrivesAtServer_37 : decode cX5_arrivesAtServer 37 = .ok (.iload_n 2, 1) := by decide +kernel
theorem dX5_arrivesAtServer_38 : decode cX5_arrivesAtServer 38 = .ok (.iconst 2, 1) := by decide +kernel
theorem dX5_arrivesAtServer_39 : decode cX5_arrivesAtServer 39 = .ok (.iastore, 1) := by decide +kernel
theorem dX5_arrivesAtServer_40 : decode cX5_arrivesAtServer 40 = .ok (.goto 75, 3) := by decide +kernel
theorem dX5_arrivesAtServer_43 : decode cX5_arrivesAtServer 43 = .ok (.iload_n 1, 1) := by decide +kernel
theorem dX5_arrivesAtServer_44 : decode cX5_arrivesAtServer 44 = .ok (.ifCond .ne 21, 3) := by decide +kernel
theorem dX5_arrivesAtServer_47 : decode cX5_arrivesAtServer 47 = .ok (.aload_n 0, 1) := by decide +kernel
theorem dX5_arrivesAtServer_48 : decode cX5_arrivesAtServer 48 = .ok (.getfield 44, 3) := by decide +kernel
theorem dX5_arrivesAtServer_51 : decode cX5_arrivesAtServer 51 = .ok (.iload_n 2, 1) := by decide +kernel
theorem dX5_arrivesAtServer_52 : decode cX5_arrivesAtServer 52 = .ok (.iaload, 1) := by decide +kernel
theorem dX5_arrivesAtServer_53 : decode cX5_arrivesAtServer 53 = .ok (.iconst 2, 1) := by decide +kernel
theorem dX5_arrivesAtServer_54 : decode cX5_arrivesAtServer 54 = .ok (.if_icmp .ne 11, 3) := by decide +kernel
theorem dX5_arrivesAtServer_57 : decode cX5_arrivesAtServer 57 = .ok (.aload_n 0, 1) := by decide +kernel
theorem dX5_arrivesAtServer_58 : decode cX5_arrivesAtServer 58 = .ok (.iload_n 2, 1) := by decide +kernel
theorem dX5_arrivesAtServer_59 : decode cX5_arrivesAtServer 59 = .ok (.invokevirtual 115, 3) := by decide +kernel
theorem dX5_arrivesAtServer_62 : decode cX5_arrivesAtServer 62 = .ok (.goto 53, 3) := by decide +kernel
theorem dX5_arrivesAtServer_65 : decode cX5_arrivesAtServer 65 = .ok (.iload_n 1, 1) := by decide +kernel
theorem dX5_arrivesAtServer_66 : decode cX5_arrivesAtServer 66 = .ok (.iconst 1, 1) := by decide +kernel
theorem dX5_arrivesAtServer_67 : decode cX5_arrivesAtServer 67 = .ok (.if_icmp .ne 23, 3) := by decide +kernel
theorem dX5_arrivesAtServer_70 : decode cX5_arrivesAtServer 70 = .ok (.aload_n 0, 1) := by decide +kernel
theorem dX5_arrivesAtServer_71 : decode cX5_arrivesAtServer 71 = .ok (.getfield 44, 3) := by decide +kernel
theorem dX5_arrivesAtServer_74 : decode cX5_arrivesAtServer 74 = .ok (.iload_n 2, 1) := by decide +kernel
theorem dX5_arrivesAtServer_75 : decode cX5_arrivesAtServer 75 = .ok (.iaload, 1) := by decide +kernel
theorem dX5_arrivesAtServer_76 : decode cX5_arrivesAtServer 76 = .ok (.iconst 2, 1) := by decide +kernel
theorem dX5_arrivesAtServer_77 : decode cX5_arrivesAtServer 77 = .ok (.if_icmp .ge 13, 3) := by decide +kernel
theorem dX5_arrivesAtServer_80 : decode cX5_arrivesAtServer 80 = .ok (.aload_n 0, 1) := by decide +kernel
theorem dX5_arrivesAtServer_81 : decode cX5_arrivesAtServer 81 = .ok (.getfield 44, 3) := by decide +kernel
theorem dX5_arrivesAtServer_84 : decode cX5_arrivesAtServer 84 = .ok (.iload_n 2, 1) := by decide +kernel
theorem dX5_arrivesAtServer_85 : decode cX5_arrivesAtServer 85 = .ok (.iconst 3, 1) := by decide +kernel
theorem dX5_arrivesAtServer_86 : decode cX5_arrivesAtServer 86 = .ok (.iastore, 1) := by decide +kernel
theorem dX5_arrivesAtServer_87 : decode cX5_arrivesAtServer 87 = .ok (.goto 28, 3) := by decide +kernel
theorem dX5_arrivesAtServer_90 : decode cX5_arrivesAtServer 90 = .ok (.iload_n 1, 1) := by decide +kernel
theorem dX5_arrivesAtServer_91 : decode cX5_arrivesAtServer 91 = .ok (.iconst 2, 1) := by decide +kernel
theorem dX5_arrivesAtServer_92 : decode cX5_arrivesAtServer 92 = .ok (.if_icmp .ne 23, 3) := by decide +kernel
theorem dX5_arrivesAtServer_95 : decode cX5_arrivesAtServer 95 = .ok (.aload_n 0, 1) := by decide +kernel
theorem dX5_arrivesAtServer_96 : decode cX5_arrivesAtServer 96 = .ok (.getfield 44, 3) := by decide +kernel
theorem dX5_arrivesAtServer_99 : decode cX5_arrivesAtServer 99 = .ok (.iload_n 2, 1) := by decide +kernel
theorem dX5_arrivesAtServer_100 : decode cX5_arrivesAtServer 100 = .ok (.iaload, 1) := by decide +kernel
theorem dX5_arrivesAtServer_101 : decode cX5_arrivesAtServer 101 = .ok (.iconst 1, 1) := by decide +kernel
theorem dX5_arrivesAtServer_102 : decode cX5_arrivesAtServer 102 = .ok (.if_icmp .ne 13, 3) := by decide +kernel
theorem dX5_arrivesAtServer_105 : decode cX5_arrivesAtServer 105 = .ok (.aload_n 0, 1) := by decide +kernel
theorem dX5_arrivesAtServer_106 : decode cX5_arrivesAtServer 106 = .ok (.getfield 47, 3) := by decide +kernel
theorem dX5_arrivesAtServer_109 : decode cX5_arrivesAtServer 109 = .ok (.iload_n 2, 1) := by decide +kernel
theorem dX5_arrivesAtServer_110 : decode cX5_arrivesAtServer 110 = .ok (.dup2, 1) := by decide +kernel
theorem dX5_arrivesAtServer_111 : decode cX5_arrivesAtServer 111 = .ok (.iaload, 1) := by decide +kernel
theorem dX5_arrivesAtServer_112 : decode cX5_arrivesAtServer 112 = .ok (.iload_n 3, 1) := by decide +kernel
theorem dX5_arrivesAtServer_113 : decode cX5_arrivesAtServer 113 = .ok (.iadd, 1) := by decide +kernel
theorem dX5_arrivesAtServer_114 : decode cX5_arrivesAtServer 114 = .ok (.iastore, 1) := by decide +kernel
theorem dX5_arrivesAtServer_115 : decode cX5_arrivesAtServer 115 = .ok (.return_, 1) := by decide +kernel
set_option maxRecDepth 20000 in
theorem ggX5_arrivesAtCaller_X5_finishes : GoodIn wsX5_arrivesAtCaller wsX5_finishes := goodIn_r _ [10, 1, 11, 12, 13, 14, 15, 9, 16, 17, 18, 19, 20, 21, 22, 23, 24, 25, 26, 27, 28, 29, 30, 31, 32, 33, 34, 35, 36, 37, 38, 39, 40, 41, 42, 43, 44, 45, 46, 47, 48, 49, 50, 51] (by decide +kernel) (by decide +kernel)
set_option maxRecDepth 20000 in
theorem gX5_arrivesAtCaller_X5_finishes : GoodIn wsX5_arrivesAtCaller (wsV RX5 103 RX5 yX5_finishes wsX5_finishes) := goodIn_app (goodIn_of _ (by decide +kernel)) ggX5_arrivesAtCaller_X5_finishes
theorem dX5_arrivesAtCaller_0 : decode cX5_arrivesAtCaller 0 = .ok (.aload_n 0, 1) := by decide +kernel
theorem dX5_arrivesAtCaller_1 : decode cX5_arrivesAtCaller 1 = .ok (.getfield 32, 3) := by decide +kernel
theorem dX5_arrivesAtCaller_4 : decode cX5_arrivesAtCaller 4 = .ok (.iload_n 2, 1) := by decide +kernel
theorem dX5_arrivesAtCaller_5 : decode cX5_arrivesAtCaller 5 = .ok (.iaload, 1) := by decide +kernel
theorem dX5_arrivesAtCaller_6 : decode cX5_arrivesAtCaller 6 = .ok (.iconst (-1), 1) := by decide +kernel
theorem dX5_arrivesAtCaller_7 : decode cX5_arrivesAtCaller 7 = .ok (.if_icmp .eq 4, 3) := by decide +kernel
theorem dX5_arrivesAtCaller_10 : decode cX5_arrivesAtCaller 10 = .ok (.return_, 1) := by decide +kernel
theorem dX5_arrivesAtCaller_11 : decode cX5_arrivesAtCaller 11 = .ok (.iload_n 1, 1) := by decide +kernel
theorem dX5_arrivesAtCaller_12 : decode cX5_arrivesAtCaller 12 = .ok (.iconst 3, 1) := by decide +kernel
theorem dX5_arrivesAtCaller_13 : decode cX5_arrivesAtCaller 13 = .ok (.if_icmp .ne 59, 3) := by decide +kernel
theorem dX5_arrivesAtCaller_16 : decode cX5_arrivesAtCaller 16 = .ok (.aload_n 0, 1) := by decide +kernel
theorem dX5_arrivesAtCaller_17 : decode cX5_arrivesAtCaller 17 = .ok (.getfield 13, 3) := by decide +kernel
theorem dX5_arrivesAtCaller_20 : decode cX5_arrivesAtCaller 20 = .ok (.iload_n 2, 1) := by decide +kernel
theorem dX5_arrivesAtCaller_21 : decode cX5_arrivesAtCaller 21 = .ok (.iaload, 1) := by decide +kernel
theorem dX5_arrivesAtCaller_22 : decode cX5_arrivesAtCaller 22 = .ok (.iconst 3, 1) := by decide +kernel
theorem dX5_arrivesAtCaller_23 : decode cX5_arrivesAtCaller 23 = .ok (.if_icmp .ne 18, 3) := by decide +kernel
theorem dX5_arrivesAtCaller_26 : decode cX5_arrivesAtCaller 26 = .ok (.iload 4, 2) := by decide +kernel
theorem dX5_arrivesAtCaller_28 : decode cX5_arrivesAtCaller 28 = .ok (.aload_n 0, 1) := by decide +kernel
theorem dX5_arrivesAtCaller_29 : decode cX5_arrivesAtCaller 29 = .ok (.getfield 38, 3) := by decide +kernel
theorem dX5_arrivesAtCaller_32 : decode cX5_arrivesAtCaller 32 = .ok (.iload_n 2, 1) := by decide +kernel
theorem dX5_arrivesAtCaller_33 : decode cX5_arrivesAtCaller 33 = .ok (.iaload, 1) := by decide +kernel
theorem dX5_arrivesAtCaller_34 : decode cX5_arrivesAtCaller 34 = .ok (.if_icmp .eq 7, 3) := by decide +kernel
theorem dX5_arrivesAtCaller_37 : decode cX5_arrivesAtCaller 37 = .ok (.iconst 1, 1) := by decide +kernel
theorem dX5_arrivesAtCaller_38 : decode cX5_arrivesAtCaller 38 = .ok (.goto 4, 3) := by decide +kernel
theorem dX5_arrivesAtCaller_41 : decode cX5_arrivesAtCaller 41 = .ok (.iconst 0, 1) := by decide +kernel
theorem dX5_arrivesAtCaller_42 : decode cX5_arrivesAtCaller 42 = .ok (.istore 5, 2) := by decide +kernel
theorem dX5_arrivesAtCaller_44 : decode cX5_arrivesAtCaller 44 = .ok (.aload_n 0, 1) := by decide +kernel
theorem dX5_arrivesAtCaller_45 : decode cX5_arrivesAtCaller 45 = .ok (.getfield 35, 3) := by decide +kernel
theorem dX5_arrivesAtCaller_48 : decode cX5_arrivesAtCaller 48 = .ok (.iload_n 2, 1) := by decide +kernel
theorem dX5_arrivesAtCaller_49 : decode cX5_arrivesAtCaller 49 = .ok (.iload 4, 2) := by decide +kernel
theorem dX5_arrivesAtCaller_51 : decode cX5_arrivesAtCaller 51 = .ok (.iastore, 1) := by decide +kernel
theorem dX5_arrivesAtCaller_52 : decode cX5_arrivesAtCaller 52 = .ok (.aload_n 0, 1) := by decide +kernel
theorem dX5_arrivesAtCaller_53 : decode cX5_arrivesAtCaller 53 = .ok (.iload_n 2, 1) := by decide +kernel
theorem dX5_arrivesAtCaller_54 : decode cX5_arrivesAtCaller 54 = .ok (.iload 5, 2) := by decide +kernel
theorem dX5_arrivesAtCaller_56 : decode cX5_arrivesAtCaller 56 = .ok (.ifCond .eq 7, 3) := by decide +kernel
theorem dX5_arrivesAtCaller_59 : decode cX5_arrivesAtCaller 59 = .ok (.iconst 4, 1) := by decide +kernel
theorem dX5_arrivesAtCaller_60 : decode cX5_arrivesAtCaller 60 = .ok (.goto 4, 3) := by decide +kernel
theorem dX5_arrivesAtCaller_63 : decode cX5_arrivesAtCaller 63 = .ok (.iload_n 3, 1) := by decide +kernel
theorem dX5_arrivesAtCaller_64 : decode cX5_arrivesAtCaller 64 = .ok (.iconst 0, 1) := by decide +kernel
theorem dX5_arrivesAtCaller_65 : decode cX5_arrivesAtCaller 65 = .ok (.invokevirtual 103, 3) := by decide +kernel
theorem dX5_arrivesAtCaller_68 : decode cX5_arrivesAtCaller 68 = .ok (.pop, 1) := by decide +kernel
theorem dX5_arrivesAtCaller_69 : decode cX5_arrivesAtCaller 69 = .ok (.goto 45, 3) := by decide +kernel
theorem dX5_arrivesAtCaller_72 : decode cX5_arrivesAtCaller 72 = .ok (.iload_n 3, 1) := by decide +kernel
theorem dX5_arrivesAtCaller_73 : decode cX5_arrivesAtCaller 73 = .ok (.aload_n 0, 1) := by decide +kernel
theorem dX5_arrivesAtCaller_74 : decode cX5_arrivesAtCaller 74 = .ok (.getfield 38, 3) := by decide +kernel
theorem dX5_arrivesAtCaller_77 : decode cX5_arrivesAtCaller 77 = .ok (.iload_n 2, 1) := by decide +kernel
theorem dX5_arrivesAtCaller_78 : decode cX5_arrivesAtCaller 78 = .ok (.iaload, 1) := by decide +kernel
theorem dX5_arrivesAtCaller_79 : decode cX5_arrivesAtCaller 79 = .ok (.if_icmp .ne 27, 3) := by decide +kernel
theorem dX5_arrivesAtCaller_82 : decode cX5_arrivesAtCaller 82 = .ok (.aload_n 0, 1) := by decide +kernel
theorem dX5_arrivesAtCaller_83 : decode cX5_arrivesAtCaller 83 = .ok (.getfield 38, 3) := by decide +kernel
theorem dX5_arrivesAtCaller_86 : decode cX5_arrivesAtCaller 86 = .ok (.iload_n 2, 1) := by decide +kernel
theorem dX5_arrivesAtCaller_87 : decode cX5_arrivesAtCaller 87 = .ok (.dup2, 1) := by decide +kernel
theorem dX5_arrivesAtCaller_88 : decode cX5_arrivesAtCaller 88 = .ok (.iaload, 1) := by decide +kernel
theorem dX5_arrivesAtCaller_89 : decode cX5_arrivesAtCaller 89 = .ok (.iconst 1, 1) := by decide +kernel
theorem dX5_arrivesAtCaller_90 : decode cX5_arrivesAtCaller 90 = .ok (.iadd, 1) := by decide +kernel
theorem dX5_arrivesAtCaller_91 : decode cX5_arrivesAtCaller 91 = .ok (.iastore, 1) := by decide +kernel
theorem dX5_arrivesAtCaller_92 : decode cX5_arrivesAtCaller 92 = .ok (.aload_n 0, 1) := by decide +kernel
theorem dX5_arrivesAtCaller_93 : decode cX5_arrivesAtCaller 93 = .ok (.getfield 41, 3) := by decide +kernel
theorem dX5_arrivesAtCaller_96 : decode cX5_arrivesAtCaller 96 = .ok (.iload_n 2, 1) := by decide +kernel
theorem dX5_arrivesAtCaller_97 : decode cX5_arrivesAtCaller 97 = .ok (.dup2, 1) := by decide +kernel
theorem dX5_arrivesAtCaller_98 : decode cX5_arrivesAtCaller 98 = .ok (.iaload, 1) := by decide +kernel
theorem dX5_arrivesAtCaller_99 : decode cX5_arrivesAtCaller 99 = .ok (.iload 4, 2) := by decide +kernel
theorem dX5_arrivesAtCaller_101 : decode cX5_arrivesAtCaller 101 = .ok (.iadd, 1) := by decide +kernel
theorem dX5_arrivesAtCaller_102 : decode cX5_arrivesAtCaller 102 = .ok (.iastore, 1) := by decide +kernel
theorem dX5_arrivesAtCaller_103 : decode cX5_arrivesAtCaller 103 = .ok (.goto 11, 3) := by decide +kernel
theorem dX5_arrivesAtCaller_106 : decode cX5_arrivesAtCaller 106 = .ok (.aload_n 0, 1) := by decide +kernel
theorem dX5_arrivesAtCaller_107 : decode cX5_arrivesAtCaller 107 = .ok (.iload_n 2, 1) := by decide +kernel
theorem dX5_arrivesAtCaller_108 : decode cX5_arrivesAtCaller 108 = .ok (.iconst 4, 1) := by decide +kernel
theorem dX5_arrivesAtCaller_109 : decode cX5_arrivesAtCaller 109 = .ok (.iconst 1, 1) := by decide +kernel
theorem dX5_arrivesAtCaller_110 : decode cX5_arrivesAtCaller 110 = .ok (.invokevirtual 103, 3) := by decide +kernel
theorem dX5_arrivesAtCaller_113 : decode cX5_arrivesAtCaller 113 = .ok (.pop, 1) := by decide +kernel
theorem dX5_arrivesAtCaller_114 : decode cX5_arrivesAtCaller 114 = .ok (.return_, 1) := by decide +kernel
set_option maxRecDepth 20000 in
theorem ggX5_barsFrame_X5_in : GoodIn wsX5_barsFrame wsX5_in := goodIn_r _ [5] (by decide +kernel) (by decide +kernel)
set_option maxRecDepth 20000 in
theorem gX5_barsFrame_X5_in : GoodIn wsX5_barsFrame (va_wsS RX5 80 yX5_in wsX5_in) := goodIn_app (goodIn_of _ (by decide +kernel)) ggX5_barsFrame_X5_in
theorem dX5_barsFrame_0 : decode cX5_barsFrame 0 = .ok (.iload_n 1, 1) := by decide +kernel
theorem dX5_barsFrame_1 : decode cX5_barsFrame 1 = .ok (.iconst 0, 1) := by decide +kernel
theorem dX5_barsFrame_2 : decode cX5_barsFrame 2 = .ok (.iconst 1, 1) := by decide +kernel
theorem dX5_barsFrame_3 : decode cX5_barsFrame 3 = .ok (.invokestatic 80, 3) := by decide +kernel
theorem dX5_barsFrame_6 : decode cX5_barsFrame 6 = .ok (.ifCond .ne 7, 3) := by decide +kernel
theorem dX5_barsFrame_9 : decode cX5_barsFrame 9 = .ok (.iconst 1, 1) := by decide +kernel
theorem dX5_barsFrame_10 : decode cX5_barsFrame 10 = .ok (.goto 17, 3) := by decide +kernel
theorem dX5_barsFrame_13 : decode cX5_barsFrame 13 = .ok (.aload_n 0, 1) := by decide +kernel
theorem dX5_barsFrame_14 : decode cX5_barsFrame 14 = .ok (.getfield 59, 3) := by decide +kernel
theorem dX5_barsFrame_17 : decode cX5_barsFrame 17 = .ok (.iload_n 1, 1) := by decide +kernel
theorem dX5_barsFrame_18 : decode cX5_barsFrame 18 = .ok (.iaload, 1) := by decide +kernel
theorem dX5_barsFrame_19 : decode cX5_barsFrame 19 = .ok (.ifCond .ne 7, 3) := by decide +kernel
theorem dX5_barsFrame_22 : decode cX5_barsFrame 22 = .ok (.iconst 2, 1) := by decide +kernel
theorem dX5_barsFrame_23 : decode cX5_barsFrame 23 = .ok (.goto 4, 3) := by decide +kernel
theorem dX5_barsFrame_26 : decode cX5_barsFrame 26 = .ok (.iconst 0, 1) := by decide +kernel
theorem dX5_barsFrame_27 : decode cX5_barsFrame 27 = .ok (.ireturn, 1) := by decide +kernel
set_option maxRecDepth 20000 in
theorem ggX5_deliver_X5_barsFrame : GoodIn wsX5_deliver wsX5_barsFrame := goodIn_r _ [10, 11, 12, 13, 9, 14, 57, 58, 59, 60, 61, 62, 63, 64, 65, 66, 67, 68, 69, 70, 71, 72, 73, 74, 75, 76, 77, 78, 79, 80, 81] (by decide +kernel) (by decide +kernel)
set_option maxRecDepth 20000 in
theorem gX5_deliver_X5_barsFrame : GoodIn wsX5_deliver (wsV RX5 127 RX5 yX5_barsFrame wsX5_barsFrame) := goodIn_app (goodIn_of _ (by decide +kernel)) ggX5_deliver_X5_barsFrame
set_option maxRecDepth 20000 in
theorem ggX5_deliver_X5_takes : GoodIn wsX5_deliver wsX5_takes := goodIn_r _ [18, 11, 2, 3, 4, 5, 57, 58, 59, 60, 61, 62, 63, 64, 65, 66, 67, 68, 69, 70, 71, 72, 73, 74, 75, 76, 77, 78, 79, 80, 81] (by decide +kernel) (by decide +kernel)
set_option maxRecDepth 20000 in
theorem gX5_deliver_X5_takes : GoodIn wsX5_deliver (wsV RX5 130 RX5 yX5_takes wsX5_takes) := goodIn_app (goodIn_of _ (by decide +kernel)) ggX5_deliver_X5_takes
set_option maxRecDepth 20000 in
theorem ggX5_deliver_X5_arrivesAtServer : GoodIn wsX5_deliver wsX5_arrivesAtServer := goodIn_r _ [22, 23, 24, 25, 26, 27, 28, 29, 9, 30, 31, 32, 33, 34, 35, 36, 11, 2, 3, 4, 5, 57, 58, 59, 60, 61, 62, 63, 64, 65, 66, 67, 68, 69, 70, 71, 72, 73, 74, 75, 76, 77, 78, 79, 80, 81] (by decide +kernel) (by decide +kernel)
set_option maxRecDepth 20000 in
theorem gX5_deliver_X5_arrivesAtServer : GoodIn wsX5_deliver (wsV RX5 133 RX5 yX5_arrivesAtServer wsX5_arrivesAtServer) := goodIn_app (goodIn_of _ (by decide +kernel)) ggX5_deliver_X5_arrivesAtServer
set_option maxRecDepth 20000 in
theorem ggX5_deliver_X5_arrivesAtCaller : GoodIn wsX5_deliver wsX5_arrivesAtCaller := goodIn_r _ [40, 41, 42, 43, 44, 45, 46, 47, 48, 9, 49, 50, 51, 33, 34, 35, 36, 11, 2, 3, 4, 5, 52, 53, 54, 55, 56, 57, 58, 59, 60, 61, 62, 63, 64, 65, 66, 67, 68, 69, 70, 71, 72, 73, 74, 75, 76, 77, 78, 79, 80, 81] (by decide +kernel) (by decide +kernel)
set_option maxRecDepth 20000 in
theorem gX5_deliver_X5_arrivesAtCaller : GoodIn wsX5_deliver (wsV RX5 136 RX5 yX5_arrivesAtCaller wsX5_arrivesAtCaller) := goodIn_app (goodIn_of _ (by decide +kernel)) ggX5_deliver_X5_arrivesAtCaller
theorem dX5_deliver_0 : decode cX5_deliver 0 = .ok (.aload_n 0, 1) := by decide +kernel
theorem dX5_deliver_1 : decode cX5_deliver 1 = .ok (.aload_n 0, 1) := by decide +kernel
theorem dX5_deliver_2 : decode cX5_deliver 2 = .ok (.iload_n 1, 1) := by decide +kernel
theorem dX5_deliver_3 : decode cX5_deliver 3 = .ok (.invokevirtual 127, 3) := by decide +kernel
theorem dX5_deliver_6 : decode cX5_deliver 6 = .ok (.putfield 74, 3) := by decide +kernel
theorem dX5_deliver_9 : decode cX5_deliver 9 = .ok (.aload_n 0, 1) := by decide +kernel
theorem dX5_deliver_10 : decode cX5_deliver 10 = .ok (.getfield 74, 3) := by decide +kernel
theorem dX5_deliver_13 : decode cX5_deliver 13 = .ok (.ifCond .le 5, 3) := by decide +kernel
theorem dX5_deliver_16 : decode cX5_deliver 16 = .ok (.iconst 0, 1) := by decide +kernel
theorem dX5_deliver_17 : decode cX5_deliver 17 = .ok (.ireturn, 1) := by decide +kernel
theorem dX5_deliver_18 : decode cX5_deliver 18 = .ok (.bipush 40, 2) := by decide +kernel
theorem dX5_deliver_20 : decode cX5_deliver 20 = .ok (.iload_n 1, 1) := by decide +kernel
theorem dX5_deliver_21 : decode cX5_deliver 21 = .ok (.imul, 1) := by decide +kernel
theorem dX5_deliver_22 : decode cX5_deliver 22 = .ok (.istore_n 2, 1) := by decide +kernel
theorem dX5_deliver_23 : decode cX5_deliver 23 = .ok (.aload_n 0, 1) := by decide +kernel
theorem dX5_deliver_24 : decode cX5_deliver 24 = .ok (.getfield 62, 3) := by decide +kernel
theorem dX5_deliver_27 : decode cX5_deliver 27 = .ok (.iload_n 2, 1) := by decide +kernel
theorem dX5_deliver_28 : decode cX5_deliver 28 = .ok (.iaload, 1) := by decide +kernel
theorem dX5_deliver_29 : decode cX5_deliver 29 = .ok (.istore_n 3, 1) := by decide +kernel
theorem dX5_deliver_30 : decode cX5_deliver 30 = .ok (.aload_n 0, 1) := by decide +kernel
theorem dX5_deliver_31 : decode cX5_deliver 31 = .ok (.getfield 65, 3) := by decide +kernel
theorem dX5_deliver_34 : decode cX5_deliver 34 = .ok (.iload_n 2, 1) := by decide +kernel
theorem dX5_deliver_35 : decode cX5_deliver 35 = .ok (.iaload, 1) := by decide +kernel
theorem dX5_deliver_36 : decode cX5_deliver 36 = .ok (.istore 4, 2) := by decide +kernel
theorem dX5_deliver_38 : decode cX5_deliver 38 = .ok (.aload_n 0, 1) := by decide +kernel
theorem dX5_deliver_39 : decode cX5_deliver 39 = .ok (.getfield 68, 3) := by decide +kernel
theorem dX5_deliver_42 : decode cX5_deliver 42 = .ok (.iload_n 2, 1) := by decide +kernel
theorem dX5_deliver_43 : decode cX5_deliver 43 = .ok (.iaload, 1) := by decide +kernel
theorem dX5_deliver_44 : decode cX5_deliver 44 = .ok (.istore 5, 2) := by decide +kernel
theorem dX5_deliver_46 : decode cX5_deliver 46 = .ok (.aload_n 0, 1) := by decide +kernel
theorem dX5_deliver_47 : decode cX5_deliver 47 = .ok (.getfield 71, 3) := by decide +kernel
theorem dX5_deliver_50 : decode cX5_deliver 50 = .ok (.iload_n 2, 1) := by decide +kernel
theorem dX5_deliver_51 : decode cX5_deliver 51 = .ok (.iaload, 1) := by decide +kernel
theorem dX5_deliver_52 : decode cX5_deliver 52 = .ok (.istore 6, 2) := by decide +kernel
theorem dX5_deliver_54 : decode cX5_deliver 54 = .ok (.aload_n 0, 1) := by decide +kernel
theorem dX5_deliver_55 : decode cX5_deliver 55 = .ok (.iload_n 1, 1) := by decide +kernel
theorem dX5_deliver_56 : decode cX5_deliver 56 = .ok (.invokevirtual 130, 3) := by decide +kernel
theorem dX5_deliver_59 : decode cX5_deliver 59 = .ok (.iload_n 1, 1) := by decide +kernel
theorem dX5_deliver_60 : decode cX5_deliver 60 = .ok (.ifCond .ne 15, 3) := by decide +kernel
theorem dX5_deliver_63 : decode cX5_deliver 63 = .ok (.aload_n 0, 1) := by decide +kernel
theorem dX5_deliver_64 : decode cX5_deliver 64 = .ok (.iload_n 3, 1) := by decide +kernel
theorem dX5_deliver_65 : decode cX5_deliver 65 = .ok (.iload 4, 2) := by decide +kernel
theorem dX5_deliver_67 : decode cX5_deliver 67 = .ok (.iload 6, 2) := by decide +kernel
theorem dX5_deliver_69 : decode cX5_deliver 69 = .ok (.invokevirtual 133, 3) := by decide +kernel
theorem dX5_deliver_72 : decode cX5_deliver 72 = .ok (.goto 14, 3) := by decide +kernel
theorem dX5_deliver_75 : decode cX5_deliver 75 = .ok (.aload_n 0, 1) := by decide +kernel
theorem dX5_deliver_76 : decode cX5_deliver 76 = .ok (.iload_n 3, 1) := by decide +kernel
theorem dX5_deliver_77 : decode cX5_deliver 77 = .ok (.iload 4, 2) := by decide +kernel
theorem dX5_deliver_79 : decode cX5_deliver 79 = .ok (.iload 5, 2) := by decide +kernel
theorem dX5_deliver_81 : decode cX5_deliver 81 = .ok (.iload 6, 2) := by decide +kernel
theorem dX5_deliver_83 : decode cX5_deliver 83 = .ok (.invokevirtual 136, 3) := by decide +kernel
theorem dX5_deliver_86 : decode cX5_deliver 86 = .ok (.iload 4, 2) := by decide +kernel
theorem dX5_deliver_88 : decode cX5_deliver 88 = .ok (.ireturn, 1) := by decide +kernel
set_option maxRecDepth 20000 in
theorem ggX5_lose_X5_barsFrame : GoodIn wsX5_lose wsX5_barsFrame := goodIn_r _ [7, 8, 9, 10, 6, 11, 19, 20, 21, 22, 23, 24, 25, 26, 27, 28, 29, 30, 31, 32, 33, 34, 35, 36, 37, 38, 39, 40, 41, 42, 43] (by decide +kernel) (by decide +kernel)
set_option maxRecDepth 20000 in
theorem gX5_lose_X5_barsFrame : GoodIn wsX5_lose (wsV RX5 127 RX5 yX5_barsFrame wsX5_barsFrame) := goodIn_app (goodIn_of _ (by decide +kernel)) ggX5_lose_X5_barsFrame
set_option maxRecDepth 20000 in
theorem ggX5_lose_X5_takes : GoodIn wsX5_lose wsX5_takes := goodIn_r _ [15, 8, 16, 2, 17, 18, 19, 20, 21, 22, 23, 24, 25, 26, 27, 28, 29, 30, 31, 32, 33, 34, 35, 36, 37, 38, 39, 40, 41, 42, 43] (by decide +kernel) (by decide +kernel)
set_option maxRecDepth 20000 in
theorem gX5_lose_X5_takes : GoodIn wsX5_lose (wsV RX5 130 RX5 yX5_takes wsX5_takes) := goodIn_app (goodIn_of _ (by decide +kernel)) ggX5_lose_X5_takes
theorem dX5_lose_0 : decode cX5_lose 0 = .ok (.aload_n 0, 1) := by decide +kernel
theorem dX5_lose_1 : decode cX5_lose 1 = .ok (.aload_n 0, 1) := by decide +kernel
theorem dX5_lose_2 : decode cX5_lose 2 = .ok (.iload_n 1, 1) := by decide +kernel
theorem dX5_lose_3 : decode cX5_lose 3 = .ok (.invokevirtual 127, 3) := by decide +kernel
theorem dX5_lose_6 : decode cX5_lose 6 = .ok (.putfield 74, 3) := by decide +kernel
theorem dX5_lose_9 : decode cX5_lose 9 = .ok (.aload_n 0, 1) := by decide +kernel
theorem dX5_lose_10 : decode cX5_lose 10 = .ok (.getfield 74, 3) := by decide +kernel
theorem dX5_lose_13 : decode cX5_lose 13 = .ok (.ifCond .le 5, 3) := by decide +kernel
theorem dX5_lose_16 : decode cX5_lose 16 = .ok (.iconst 0, 1) := by decide +kernel
theorem dX5_lose_17 : decode cX5_lose 17 = .ok (.ireturn, 1) := by decide +kernel
theorem dX5_lose_18 : decode cX5_lose 18 = .ok (.aload_n 0, 1) := by decide +kernel
theorem dX5_lose_19 : decode cX5_lose 19 = .ok (.getfield 65, 3) := by decide +kernel
theorem dX5_lose_22 : decode cX5_lose 22 = .ok (.bipush 40, 2) := by decide +kernel
theorem dX5_lose_24 : decode cX5_lose 24 = .ok (.iload_n 1, 1) := by decide +kernel
theorem dX5_lose_25 : decode cX5_lose 25 = .ok (.imul, 1) := by decide +kernel
theorem dX5_lose_26 : decode cX5_lose 26 = .ok (.iaload, 1) := by decide +kernel
theorem dX5_lose_27 : decode cX5_lose 27 = .ok (.istore_n 2, 1) := by decide +kernel
theorem dX5_lose_28 : decode cX5_lose 28 = .ok (.aload_n 0, 1) := by decide +kernel
theorem dX5_lose_29 : decode cX5_lose 29 = .ok (.iload_n 1, 1) := by decide +kernel
theorem dX5_lose_30 : decode cX5_lose 30 = .ok (.invokevirtual 130, 3) := by decide +kernel
theorem dX5_lose_33 : decode cX5_lose 33 = .ok (.iload_n 2, 1) := by decide +kernel
theorem dX5_lose_34 : decode cX5_lose 34 = .ok (.ireturn, 1) := by decide +kernel
set_option maxRecDepth 20000 in
theorem ggX5_frames_X5_in : GoodIn wsX5_frames wsX5_in := goodIn_r _ [6] (by decide +kernel) (by decide +kernel)
set_option maxRecDepth 20000 in
theorem gX5_frames_X5_in : GoodIn wsX5_frames (va_wsS RX5 80 yX5_in wsX5_in) := goodIn_app (goodIn_of _ (by decide +kernel)) ggX5_frames_X5_in
set_option maxRecDepth 20000 in
theorem ggX5_frames_X5_fails : GoodIn wsX5_frames wsX5_fails := goodIn_r _ [10, 1, 11, 12, 13, 14, 15, 16, 17, 18, 19, 20, 21, 22, 23, 24, 25, 26, 27, 28, 29, 30, 31, 32, 33, 34, 35] (by decide +kernel) (by decide +kernel)
set_option maxRecDepth 20000 in
theorem gX5_frames_X5_fails : GoodIn wsX5_frames (wsV RX5 107 RX5 yX5_fails wsX5_fails) := goodIn_app (goodIn_of _ (by decide +kernel)) ggX5_frames_X5_fails
theorem dX5_frames_0 : decode cX5_frames 0 = .ok (.aload_n 0, 1) := by decide +kernel
theorem dX5_frames_1 : decode cX5_frames 1 = .ok (.iconst 0, 1) := by decide +kernel
theorem dX5_frames_2 : decode cX5_frames 2 = .ok (.putfield 74, 3) := by decide +kernel
theorem dX5_frames_5 : decode cX5_frames 5 = .ok (.iload_n 1, 1) := by decide +kernel
theorem dX5_frames_6 : decode cX5_frames 6 = .ok (.iconst 0, 1) := by decide +kernel
theorem dX5_frames_7 : decode cX5_frames 7 = .ok (.iconst 1, 1) := by decide +kernel
theorem dX5_frames_8 : decode cX5_frames 8 = .ok (.invokestatic 80, 3) := by decide +kernel
theorem dX5_frames_11 : decode cX5_frames 11 = .ok (.ifCond .eq 12, 3) := by decide +kernel
theorem dX5_frames_14 : decode cX5_frames 14 = .ok (.aload_n 0, 1) := by decide +kernel
theorem dX5_frames_15 : decode cX5_frames 15 = .ok (.getfield 59, 3) := by decide +kernel
theorem dX5_frames_18 : decode cX5_frames 18 = .ok (.iload_n 1, 1) := by decide +kernel
theorem dX5_frames_19 : decode cX5_frames 19 = .ok (.iaload, 1) := by decide +kernel
theorem dX5_frames_20 : decode cX5_frames 20 = .ok (.goto 8, 3) := by decide +kernel
theorem dX5_frames_23 : decode cX5_frames 23 = .ok (.aload_n 0, 1) := by decide +kernel
theorem dX5_frames_24 : decode cX5_frames 24 = .ok (.iconst 1, 1) := by decide +kernel
theorem dX5_frames_25 : decode cX5_frames 25 = .ok (.invokevirtual 107, 3) := by decide +kernel
theorem dX5_frames_28 : decode cX5_frames 28 = .ok (.ireturn, 1) := by decide +kernel
set_option maxRecDepth 20000 in
theorem ggX5_barsPlace_X5_in : GoodIn wsX5_barsPlace wsX5_in := goodIn_r _ [5] (by decide +kernel) (by decide +kernel)
set_option maxRecDepth 20000 in
theorem gX5_barsPlace_X5_in : GoodIn wsX5_barsPlace (va_wsS RX5 80 yX5_in wsX5_in) := goodIn_app (goodIn_of _ (by decide +kernel)) ggX5_barsPlace_X5_in
theorem dX5_barsPlace_0 : decode cX5_barsPlace 0 = .ok (.iload_n 1, 1) := by decide +kernel
theorem dX5_barsPlace_1 : decode cX5_barsPlace 1 = .ok (.iconst 0, 1) := by decide +kernel
theorem dX5_barsPlace_2 : decode cX5_barsPlace 2 = .ok (.iconst 1, 1) := by decide +kernel
theorem dX5_barsPlace_3 : decode cX5_barsPlace 3 = .ok (.invokestatic 80, 3) := by decide +kernel
theorem dX5_barsPlace_6 : decode cX5_barsPlace 6 = .ok (.ifCond .ne 7, 3) := by decide +kernel
theorem dX5_barsPlace_9 : decode cX5_barsPlace 9 = .ok (.iconst 2, 1) := by decide +kernel
theorem dX5_barsPlace_10 : decode cX5_barsPlace 10 = .ok (.goto 24, 3) := by decide +kernel
theorem dX5_barsPlace_13 : decode cX5_barsPlace 13 = .ok (.iload_n 2, 1) := by decide +kernel
theorem dX5_barsPlace_14 : decode cX5_barsPlace 14 = .ok (.iconst 0, 1) := by decide +kernel
theorem dX5_barsPlace_15 : decode cX5_barsPlace 15 = .ok (.aload_n 0, 1) := by decide +kernel
theorem dX5_barsPlace_16 : decode cX5_barsPlace 16 = .ok (.getfield 59, 3) := by decide +kernel
theorem dX5_barsPlace_19 : decode cX5_barsPlace 19 = .ok (.iload_n 1, 1) := by decide +kernel
theorem dX5_barsPlace_20 : decode cX5_barsPlace 20 = .ok (.iaload, 1) := by decide +kernel
theorem dX5_barsPlace_21 : decode cX5_barsPlace 21 = .ok (.iconst 1, 1) := by decide +kernel
theorem dX5_barsPlace_22 : decode cX5_barsPlace 22 = .ok (.isub, 1) := by decide +kernel
theorem dX5_barsPlace_23 : decode cX5_barsPlace 23 = .ok (.invokestatic 80, 3) := by decide +kernel
theorem dX5_barsPlace_26 : decode cX5_barsPlace 26 = .ok (.ifCond .eq 7, 3) := by decide +kernel
theorem dX5_barsPlace_29 : decode cX5_barsPlace 29 = .ok (.iconst 0, 1) := by decide +kernel
theorem dX5_barsPlace_30 : decode cX5_barsPlace 30 = .ok (.goto 4, 3) := by decide +kernel
theorem dX5_barsPlace_33 : decode cX5_barsPlace 33 = .ok (.iconst 1, 1) := by decide +kernel
theorem dX5_barsPlace_34 : decode cX5_barsPlace 34 = .ok (.ireturn, 1) := by decide +kernel
set_option maxRecDepth 20000 in
theorem ggX5_frame_X5_barsPlace : GoodIn wsX5_frame wsX5_barsPlace := goodIn_r _ [8, 9, 10, 11, 7, 12, 13, 14, 15, 16, 17, 18, 19, 20, 21, 22, 23, 24, 25, 26, 27, 28, 29, 30, 31, 32, 33, 34, 35, 36, 37] (by decide +kernel) (by decide +kernel)
set_option maxRecDepth 20000 in
theorem gX5_frame_X5_barsPlace : GoodIn wsX5_frame (wsV RX5 140 RX5 yX5_barsPlace wsX5_barsPlace) := goodIn_app (goodIn_of _ (by decide +kernel)) ggX5_frame_X5_barsPlace
theorem dX5_frame_0 : decode cX5_frame 0 = .ok (.aload_n 0, 1) := by decide +kernel
theorem dX5_frame_1 : decode cX5_frame 1 = .ok (.aload_n 0, 1) := by decide +kernel
theorem dX5_frame_2 : decode cX5_frame 2 = .ok (.iload_n 1, 1) := by decide +kernel
theorem dX5_frame_3 : decode cX5_frame 3 = .ok (.iload_n 2, 1) := by decide +kernel
theorem dX5_frame_4 : decode cX5_frame 4 = .ok (.invokevirtual 140, 3) := by decide +kernel
theorem dX5_frame_7 : decode cX5_frame 7 = .ok (.putfield 74, 3) := by decide +kernel
theorem dX5_frame_10 : decode cX5_frame 10 = .ok (.bipush 40, 2) := by decide +kernel
theorem dX5_frame_12 : decode cX5_frame 12 = .ok (.iload_n 1, 1) := by decide +kernel
theorem dX5_frame_13 : decode cX5_frame 13 = .ok (.imul, 1) := by decide +kernel
theorem dX5_frame_14 : decode cX5_frame 14 = .ok (.iload_n 2, 1) := by decide +kernel
theorem dX5_frame_15 : decode cX5_frame 15 = .ok (.iadd, 1) := by decide +kernel
theorem dX5_frame_16 : decode cX5_frame 16 = .ok (.istore_n 3, 1) := by decide +kernel
theorem dX5_frame_17 : decode cX5_frame 17 = .ok (.aload_n 0, 1) := by decide +kernel
theorem dX5_frame_18 : decode cX5_frame 18 = .ok (.getfield 74, 3) := by decide +kernel
theorem dX5_frame_21 : decode cX5_frame 21 = .ok (.ifCond .le 7, 3) := by decide +kernel
theorem dX5_frame_24 : decode cX5_frame 24 = .ok (.iconst 0, 1) := by decide +kernel
theorem dX5_frame_25 : decode cX5_frame 25 = .ok (.goto 19, 3) := by decide +kernel
theorem dX5_frame_28 : decode cX5_frame 28 = .ok (.bipush 100, 2) := by decide +kernel
theorem dX5_frame_30 : decode cX5_frame 30 = .ok (.aload_n 0, 1) := by decide +kernel
theorem dX5_frame_31 : decode cX5_frame 31 = .ok (.getfield 62, 3) := by decide +kernel
theorem dX5_frame_34 : decode cX5_frame 34 = .ok (.iload_n 3, 1) := by decide +kernel
theorem dX5_frame_35 : decode cX5_frame 35 = .ok (.iaload, 1) := by decide +kernel
theorem dX5_frame_36 : decode cX5_frame 36 = .ok (.imul, 1) := by decide +kernel
theorem dX5_frame_37 : decode cX5_frame 37 = .ok (.aload_n 0, 1) := by decide +kernel
theorem dX5_frame_38 : decode cX5_frame 38 = .ok (.getfield 65, 3) := by decide +kernel
theorem dX5_frame_41 : decode cX5_frame 41 = .ok (.iload_n 3, 1) := by decide +kernel
theorem dX5_frame_42 : decode cX5_frame 42 = .ok (.iaload, 1) := by decide +kernel
theorem dX5_frame_43 : decode cX5_frame 43 = .ok (.iadd, 1) := by decide +kernel
theorem dX5_frame_44 : decode cX5_frame 44 = .ok (.ireturn, 1) := by decide +kernel
set_option maxRecDepth 20000 in
theorem ggX5_frameValue_X5_barsPlace : GoodIn wsX5_frameValue wsX5_barsPlace := goodIn_r _ [7, 8, 9, 10, 6, 11, 12, 13, 14, 15, 16, 17, 18, 19, 20, 21, 22, 23, 24, 25, 26, 27, 28, 29, 30, 31, 32, 33, 34, 35, 36] (by decide +kernel) (by decide +kernel)
set_option maxRecDepth 20000 in
theorem gX5_frameValue_X5_barsPlace : GoodIn wsX5_frameValue (wsV RX5 140 RX5 yX5_barsPlace wsX5_barsPlace) := goodIn_app (goodIn_of _ (by decide +kernel)) ggX5_frameValue_X5_barsPlace
theorem dX5_frameValue_0 : decode cX5_frameValue 0 = .ok (.aload_n 0, 1) := by decide +kernel
theorem dX5_frameValue_1 : decode cX5_frameValue 1 = .ok (.aload_n 0, 1) := by decide +kernel
theorem dX5_frameValue_2 : decode cX5_frameValue 2 = .ok (.iload_n 1, 1) := by decide +kernel
theorem dX5_frameValue_3 : decode cX5_frameValue 3 = .ok (.iload_n 2, 1) := by decide +kernel
theorem dX5_frameValue_4 : decode cX5_frameValue 4 = .ok (.invokevirtual 140, 3) := by decide +kernel
theorem dX5_frameValue_7 : decode cX5_frameValue 7 = .ok (.putfield 74, 3) := by decide +kernel
theorem dX5_frameValue_10 : decode cX5_frameValue 10 = .ok (.aload_n 0, 1) := by decide +kernel
theorem dX5_frameValue_11 : decode cX5_frameValue 11 = .ok (.getfield 74, 3) := by decide +kernel
theorem dX5_frameValue_14 : decode cX5_frameValue 14 = .ok (.ifCond .le 7, 3) := by decide +kernel
theorem dX5_frameValue_17 : decode cX5_frameValue 17 = .ok (.iconst 0, 1) := by decide +kernel
theorem dX5_frameValue_18 : decode cX5_frameValue 18 = .ok (.goto 14, 3) := by decide +kernel
theorem dX5_frameValue_21 : decode cX5_frameValue 21 = .ok (.aload_n 0, 1) := by decide +kernel
theorem dX5_frameValue_22 : decode cX5_frameValue 22 = .ok (.getfield 71, 3) := by decide +kernel
theorem dX5_frameValue_25 : decode cX5_frameValue 25 = .ok (.bipush 40, 2) := by decide +kernel
theorem dX5_frameValue_27 : decode cX5_frameValue 27 = .ok (.iload_n 1, 1) := by decide +kernel
theorem dX5_frameValue_28 : decode cX5_frameValue 28 = .ok (.imul, 1) := by decide +kernel
theorem dX5_frameValue_29 : decode cX5_frameValue 29 = .ok (.iload_n 2, 1) := by decide +kernel
theorem dX5_frameValue_30 : decode cX5_frameValue 30 = .ok (.iadd, 1) := by decide +kernel
theorem dX5_frameValue_31 : decode cX5_frameValue 31 = .ok (.iaload, 1) := by decide +kernel
theorem dX5_frameValue_32 : decode cX5_frameValue 32 = .ok (.ireturn, 1) := by decide +kernel
set_option maxRecDepth 20000 in
theorem ggX5_ticks_X5_finishes : GoodIn wsX5_ticks wsX5_finishes := goodIn_r _ [14, 3, 9, 2, 15, 16, 17, 13, 18, 19, 20, 21, 22, 23, 24, 25, 26, 27, 28, 33, 34, 35, 36, 37, 38, 39, 40, 41, 42, 43, 44, 45, 46, 47, 48, 49, 50, 51, 52, 53, 54, 55, 56, 57] (by decide +kernel) (by decide +kernel)
set_option maxRecDepth 20000 in
theorem gX5_ticks_X5_finishes : GoodIn wsX5_ticks (wsV RX5 103 RX5 yX5_finishes wsX5_finishes) := goodIn_app (goodIn_of _ (by decide +kernel)) ggX5_ticks_X5_finishes
set_option maxRecDepth 20000 in
theorem ggX5_ticks_X5_requests : GoodIn wsX5_ticks wsX5_requests := goodIn_r _ [32, 8, 7, 1, 15, 16, 17, 13, 18, 19, 20, 21, 22, 23, 33, 34, 35, 36, 37, 38, 39, 40, 41, 42, 43, 44, 45, 46, 47, 48, 49, 50, 51, 52, 53, 54, 55, 56, 57] (by decide +kernel) (by decide +kernel)
set_option maxRecDepth 20000 in
theorem gX5_ticks_X5_requests : GoodIn wsX5_ticks (wsV RX5 99 RX5 yX5_requests wsX5_requests) := goodIn_app (goodIn_of _ (by decide +kernel)) ggX5_ticks_X5_requests
theorem dX5_ticks_0 : decode cX5_ticks 0 = .ok (.aload_n 0, 1) := by decide +kernel
theorem dX5_ticks_1 : decode cX5_ticks 1 = .ok (.dup, 1) := by decide +kernel
theorem dX5_ticks_2 : decode cX5_ticks 2 = .ok (.getfield 84, 3) := by decide +kernel
theorem dX5_ticks_5 : decode cX5_ticks 5 = .ok (.iconst 1, 1) := by decide +kernel
theorem dX5_ticks_6 : decode cX5_ticks 6 = .ok (.iadd, 1) := by decide +kernel
theorem dX5_ticks_7 : decode cX5_ticks 7 = .ok (.putfield 84, 3) := by decide +kernel
theorem dX5_ticks_10 : decode cX5_ticks 10 = .ok (.iconst 0, 1) := by decide +kernel
theorem dX5_ticks_11 : decode cX5_ticks 11 = .ok (.istore_n 1, 1) := by decide +kernel
theorem dX5_ticks_12 : decode cX5_ticks 12 = .ok (.iconst 0, 1) := by decide +kernel
theorem dX5_ticks_13 : decode cX5_ticks 13 = .ok (.istore_n 2, 1) := by decide +kernel
theorem dX5_ticks_14 : decode cX5_ticks 14 = .ok (.iload_n 2, 1) := by decide +kernel
theorem dX5_ticks_15 : decode cX5_ticks 15 = .ok (.aload_n 0, 1) := by decide +kernel
theorem dX5_ticks_16 : decode cX5_ticks 16 = .ok (.getfield 77, 3) := by decide +kernel
theorem dX5_ticks_19 : decode cX5_ticks 19 = .ok (.if_icmp .ge 42, 3) := by decide +kernel
theorem dX5_ticks_22 : decode cX5_ticks 22 = .ok (.aload_n 0, 1) := by decide +kernel
theorem dX5_ticks_23 : decode cX5_ticks 23 = .ok (.getfield 32, 3) := by decide +kernel
theorem dX5_ticks_26 : decode cX5_ticks 26 = .ok (.iload_n 2, 1) := by decide +kernel
theorem dX5_ticks_27 : decode cX5_ticks 27 = .ok (.iaload, 1) := by decide +kernel
theorem dX5_ticks_28 : decode cX5_ticks 28 = .ok (.iconst (-1), 1) := by decide +kernel
theorem dX5_ticks_29 : decode cX5_ticks 29 = .ok (.if_icmp .ne 26, 3) := by decide +kernel
theorem dX5_ticks_32 : decode cX5_ticks 32 = .ok (.aload_n 0, 1) := by decide +kernel
theorem dX5_ticks_33 : decode cX5_ticks 33 = .ok (.getfield 23, 3) := by decide +kernel
theorem dX5_ticks_36 : decode cX5_ticks 36 = .ok (.iload_n 2, 1) := by decide +kernel
theorem dX5_ticks_37 : decode cX5_ticks 37 = .ok (.iaload, 1) := by decide +kernel
theorem dX5_ticks_38 : decode cX5_ticks 38 = .ok (.aload_n 0, 1) := by decide +kernel
theorem dX5_ticks_39 : decode cX5_ticks 39 = .ok (.getfield 84, 3) := by decide +kernel
theorem dX5_ticks_42 : decode cX5_ticks 42 = .ok (.if_icmp .gt 13, 3) := by decide +kernel
theorem dX5_ticks_45 : decode cX5_ticks 45 = .ok (.iload_n 1, 1) := by decide +kernel
theorem dX5_ticks_46 : decode cX5_ticks 46 = .ok (.aload_n 0, 1) := by decide +kernel
theorem dX5_ticks_47 : decode cX5_ticks 47 = .ok (.iload_n 2, 1) := by decide +kernel
theorem dX5_ticks_48 : decode cX5_ticks 48 = .ok (.iconst 2, 1) := by decide +kernel
theorem dX5_ticks_49 : decode cX5_ticks 49 = .ok (.iconst 0, 1) := by decide +kernel
theorem dX5_ticks_50 : decode cX5_ticks 50 = .ok (.invokevirtual 103, 3) := by decide +kernel
theorem dX5_ticks_53 : decode cX5_ticks 53 = .ok (.iadd, 1) := by decide +kernel
theorem dX5_ticks_54 : decode cX5_ticks 54 = .ok (.istore_n 1, 1) := by decide +kernel
theorem dX5_ticks_55 : decode cX5_ticks 55 = .ok (.iinc 2 1, 3) := by decide +kernel
theorem dX5_ticks_58 : decode cX5_ticks 58 = .ok (.goto (-44), 3) := by decide +kernel
theorem dX5_ticks_61 : decode cX5_ticks 61 = .ok (.iconst 0, 1) := by decide +kernel
theorem dX5_ticks_62 : decode cX5_ticks 62 = .ok (.istore_n 2, 1) := by decide +kernel
theorem dX5_ticks_63 : decode cX5_ticks 63 = .ok (.iload_n 2, 1) := by decide +kernel
theorem dX5_ticks_64 : decode cX5_ticks 64 = .ok (.aload_n 0, 1) := by decide +kernel
theorem dX5_ticks_65 : decode cX5_ticks 65 = .ok (.getfield 77, 3) := by decide +kernel
theorem dX5_ticks_68 : decode cX5_ticks 68 = .ok (.if_icmp .ge 48, 3) := by decide +kernel
theorem dX5_ticks_71 : decode cX5_ticks 71 = .ok (.aload_n 0, 1) := by decide +kernel
theorem dX5_ticks_72 : decode cX5_ticks 72 = .ok (.getfield 44, 3) := by decide +kernel
theorem dX5_ticks_75 : decode cX5_ticks 75 = .ok (.iload_n 2, 1) := by decide +kernel
theorem dX5_ticks_76 : decode cX5_ticks 76 = .ok (.aload_n 0, 1) := by decide +kernel
theorem dX5_ticks_77 : decode cX5_ticks 77 = .ok (.getfield 44, 3) := by decide +kernel
theorem dX5_ticks_80 : decode cX5_ticks 80 = .ok (.iload_n 2, 1) := by decide +kernel
theorem dX5_ticks_81 : decode cX5_ticks 81 = .ok (.iaload, 1) := by decide +kernel
theorem dX5_ticks_82 : decode cX5_ticks 82 = .ok (.iconst 1, 1) := by decide +kernel
theorem dX5_ticks_83 : decode cX5_ticks 83 = .ok (.if_icmp .ne 20, 3) := by decide +kernel
theorem dX5_ticks_86 : decode cX5_ticks 86 = .ok (.aload_n 0, 1) := by decide +kernel
theorem dX5_ticks_87 : decode cX5_ticks 87 = .ok (.getfield 23, 3) := by decide +kernel
theorem dX5_ticks_90 : decode cX5_ticks 90 = .ok (.iload_n 2, 1) := by decide +kernel
theorem dX5_ticks_91 : decode cX5_ticks 91 = .ok (.iaload, 1) := by decide +kernel
theorem dX5_ticks_92 : decode cX5_ticks 92 = .ok (.aload_n 0, 1) := by decide +kernel
theorem dX5_ticks_93 : decode cX5_ticks 93 = .ok (.getfield 84, 3) := by decide +kernel
theorem dX5_ticks_96 : decode cX5_ticks 96 = .ok (.if_icmp .gt 7, 3) := by decide +kernel
theorem dX5_ticks_99 : decode cX5_ticks 99 = .ok (.iconst 3, 1) := by decide +kernel
theorem dX5_ticks_100 : decode cX5_ticks 100 = .ok (.goto 9, 3) := by decide +kernel
theorem dX5_ticks_103 : decode cX5_ticks 103 = .ok (.aload_n 0, 1) := by decide +kernel
theorem dX5_ticks_104 : decode cX5_ticks 104 = .ok (.getfield 44, 3) := by decide +kernel
theorem dX5_ticks_107 : decode cX5_ticks 107 = .ok (.iload_n 2, 1) := by decide +kernel
theorem dX5_ticks_108 : decode cX5_ticks 108 = .ok (.iaload, 1) := by decide +kernel
theorem dX5_ticks_109 : decode cX5_ticks 109 = .ok (.iastore, 1) := by decide +kernel
theorem dX5_ticks_110 : decode cX5_ticks 110 = .ok (.iinc 2 1, 3) := by decide +kernel
theorem dX5_ticks_113 : decode cX5_ticks 113 = .ok (.goto (-50), 3) := by decide +kernel
theorem dX5_ticks_116 : decode cX5_ticks 116 = .ok (.iconst 0, 1) := by decide +kernel
theorem dX5_ticks_117 : decode cX5_ticks 117 = .ok (.istore_n 2, 1) := by decide +kernel
theorem dX5_ticks_118 : decode cX5_ticks 118 = .ok (.iload_n 2, 1) := by decide +kernel
theorem dX5_ticks_119 : decode cX5_ticks 119 = .ok (.aload_n 0, 1) := by decide +kernel
theorem dX5_ticks_120 : decode cX5_ticks 120 = .ok (.getfield 77, 3) := by decide +kernel
theorem dX5_ticks_123 : decode cX5_ticks 123 = .ok (.if_icmp .ge 89, 3) := by decide +kernel
theorem dX5_ticks_126 : decode cX5_ticks 126 = .ok (.aload_n 0, 1) := by decide +kernel
theorem dX5_ticks_127 : decode cX5_ticks 127 = .ok (.getfield 32, 3) := by decide +kernel
theorem dX5_ticks_130 : decode cX5_ticks 130 = .ok (.iload_n 2, 1) := by decide +kernel
theorem dX5_ticks_131 : decode cX5_ticks 131 = .ok (.iaload, 1) := by decide +kernel
theorem dX5_ticks_132 : decode cX5_ticks 132 = .ok (.iconst (-1), 1) := by decide +kernel
theorem dX5_ticks_133 : decode cX5_ticks 133 = .ok (.if_icmp .ne 32, 3) := by decide +kernel
theorem dX5_ticks_136 : decode cX5_ticks 136 = .ok (.aload_n 0, 1) := by decide +kernel
theorem dX5_ticks_137 : decode cX5_ticks 137 = .ok (.getfield 38, 3) := by decide +kernel
theorem dX5_ticks_140 : decode cX5_ticks 140 = .ok (.iload_n 2, 1) := by decide +kernel
theorem dX5_ticks_141 : decode cX5_ticks 141 = .ok (.iaload, 1) := by decide +kernel
theorem dX5_ticks_142 : decode cX5_ticks 142 = .ok (.ifCond .ne 23, 3) := by decide +kernel
theorem dX5_ticks_145 : decode cX5_ticks 145 = .ok (.aload_n 0, 1) := by decide +kernel
theorem dX5_ticks_146 : decode cX5_ticks 146 = .ok (.getfield 84, 3) := by decide +kernel
theorem dX5_ticks_149 : decode cX5_ticks 149 = .ok (.aload_n 0, 1) := by decide +kernel
theorem dX5_ticks_150 : decode cX5_ticks 150 = .ok (.getfield 29, 3) := by decide +kernel
theorem dX5_ticks_153 : decode cX5_ticks 153 = .ok (.iload_n 2, 1) := by decide +kernel
theorem dX5_ticks_154 : decode cX5_ticks 154 = .ok (.iaload, 1) := by decide +kernel
theorem dX5_ticks_155 : decode cX5_ticks 155 = .ok (.isub, 1) := by decide +kernel
theorem dX5_ticks_156 : decode cX5_ticks 156 = .ok (.bipush 8, 2) := by decide +kernel
theorem dX5_ticks_158 : decode cX5_ticks 158 = .ok (.if_icmp .lt 7, 3) := by decide +kernel
theorem dX5_ticks_161 : decode cX5_ticks 161 = .ok (.iconst 1, 1) := by decide +kernel
theorem dX5_ticks_162 : decode cX5_ticks 162 = .ok (.goto 4, 3) := by decide +kernel
theorem dX5_ticks_165 : decode cX5_ticks 165 = .ok (.iconst 0, 1) := by decide +kernel
theorem dX5_ticks_166 : decode cX5_ticks 166 = .ok (.istore_n 3, 1) := by decide +kernel
theorem dX5_ticks_167 : decode cX5_ticks 167 = .ok (.iload_n 3, 1) := by decide +kernel
theorem dX5_ticks_168 : decode cX5_ticks 168 = .ok (.ifCond .eq 38, 3) := by decide +kernel
theorem dX5_ticks_171 : decode cX5_ticks 171 = .ok (.aload_n 0, 1) := by decide +kernel
theorem dX5_ticks_172 : decode cX5_ticks 172 = .ok (.getfield 26, 3) := by decide +kernel
theorem dX5_ticks_175 : decode cX5_ticks 175 = .ok (.iload_n 2, 1) := by decide +kernel
theorem dX5_ticks_176 : decode cX5_ticks 176 = .ok (.iaload, 1) := by decide +kernel
theorem dX5_ticks_177 : decode cX5_ticks 177 = .ok (.iconst 4, 1) := by decide +kernel
theorem dX5_ticks_178 : decode cX5_ticks 178 = .ok (.if_icmp .ge 28, 3) := by decide +kernel
theorem dX5_ticks_181 : decode cX5_ticks 181 = .ok (.aload_n 0, 1) := by decide +kernel
theorem dX5_ticks_182 : decode cX5_ticks 182 = .ok (.getfield 7, 3) := by decide +kernel
theorem dX5_ticks_185 : decode cX5_ticks 185 = .ok (.bipush 10, 2) := by decide +kernel
theorem dX5_ticks_187 : decode cX5_ticks 187 = .ok (.if_icmp .lt 19, 3) := by decide +kernel
theorem dX5_ticks_190 : decode cX5_ticks 190 = .ok (.aload_n 0, 1) := by decide +kernel
theorem dX5_ticks_191 : decode cX5_ticks 191 = .ok (.dup, 1) := by decide +kernel
theorem dX5_ticks_192 : decode cX5_ticks 192 = .ok (.getfield 7, 3) := by decide +kernel
theorem dX5_ticks_195 : decode cX5_ticks 195 = .ok (.bipush 10, 2) := by decide +kernel
theorem dX5_ticks_197 : decode cX5_ticks 197 = .ok (.isub, 1) := by decide +kernel
theorem dX5_ticks_198 : decode cX5_ticks 198 = .ok (.putfield 7, 3) := by decide +kernel
theorem dX5_ticks_201 : decode cX5_ticks 201 = .ok (.aload_n 0, 1) := by decide +kernel
theorem dX5_ticks_202 : decode cX5_ticks 202 = .ok (.iload_n 2, 1) := by decide +kernel
theorem dX5_ticks_203 : decode cX5_ticks 203 = .ok (.invokevirtual 99, 3) := by decide +kernel
theorem dX5_ticks_206 : decode cX5_ticks 206 = .ok (.iinc 2 1, 3) := by decide +kernel
theorem dX5_ticks_209 : decode cX5_ticks 209 = .ok (.goto (-91), 3) := by decide +kernel
theorem dX5_ticks_212 : decode cX5_ticks 212 = .ok (.iload_n 1, 1) := by decide +kernel
theorem dX5_ticks_213 : decode cX5_ticks 213 = .ok (.ireturn, 1) := by decide +kernel
set_option maxRecDepth 20000 in
theorem ggX5_pass_X5_in : GoodIn wsX5_pass wsX5_in := goodIn_r _ [5] (by decide +kernel) (by decide +kernel)
set_option maxRecDepth 20000 in
theorem gX5_pass_X5_in : GoodIn wsX5_pass (va_wsS RX5 80 yX5_in wsX5_in) := goodIn_app (goodIn_of _ (by decide +kernel)) ggX5_pass_X5_in
set_option maxRecDepth 20000 in
theorem ggX5_pass_X5_ticks : GoodIn wsX5_pass wsX5_ticks := goodIn_r _ [9, 10, 11, 12, 13, 14, 15, 16, 17, 18, 19, 20, 21, 4, 22, 23, 24, 25, 26, 27, 28, 29, 30, 31, 32, 33, 34, 35, 36, 37, 38, 39, 40, 41, 42, 43, 44, 45, 46, 47, 48, 49, 50, 51, 52, 53, 54, 55, 56, 57, 58, 59, 60, 61, 62, 63, 64, 65] (by decide +kernel) (by decide +kernel)
set_option maxRecDepth 20000 in
theorem gX5_pass_X5_ticks : GoodIn wsX5_pass (wsV RX5 144 RX5 yX5_ticks wsX5_ticks) := goodIn_app (goodIn_of _ (by decide +kernel)) ggX5_pass_X5_ticks
theorem dX5_pass_0 : decode cX5_pass 0 = .ok (.aload_n 0, 1) := by decide +kernel
theorem dX5_pass_1 : decode cX5_pass 1 = .ok (.iload_n 1, 1) := by decide +kernel
theorem dX5_pass_2 : decode cX5_pass 2 = .ok (.iconst 1, 1) := by decide +kernel
theorem dX5_pass_3 : decode cX5_pass 3 = .ok (.sipush 200, 3) := by decide +kernel
theorem dX5_pass_6 : decode cX5_pass 6 = .ok (.invokestatic 80, 3) := by decide +kernel
theorem dX5_pass_9 : decode cX5_pass 9 = .ok (.ifCond .eq 7, 3) := by decide +kernel
theorem dX5_pass_12 : decode cX5_pass 12 = .ok (.iconst 0, 1) := by decide +kernel
theorem dX5_pass_13 : decode cX5_pass 13 = .ok (.goto 4, 3) := by decide +kernel
theorem dX5_pass_16 : decode cX5_pass 16 = .ok (.iconst 1, 1) := by decide +kernel
theorem dX5_pass_17 : decode cX5_pass 17 = .ok (.putfield 74, 3) := by decide +kernel
theorem dX5_pass_20 : decode cX5_pass 20 = .ok (.iconst 0, 1) := by decide +kernel
theorem dX5_pass_21 : decode cX5_pass 21 = .ok (.istore_n 2, 1) := by decide +kernel
theorem dX5_pass_22 : decode cX5_pass 22 = .ok (.iconst 0, 1) := by decide +kernel
theorem dX5_pass_23 : decode cX5_pass 23 = .ok (.istore_n 3, 1) := by decide +kernel
theorem dX5_pass_24 : decode cX5_pass 24 = .ok (.iload_n 3, 1) := by decide +kernel
theorem dX5_pass_25 : decode cX5_pass 25 = .ok (.iload_n 1, 1) := by decide +kernel
theorem dX5_pass_26 : decode cX5_pass 26 = .ok (.if_icmp .ge 23, 3) := by decide +kernel
theorem dX5_pass_29 : decode cX5_pass 29 = .ok (.aload_n 0, 1) := by decide +kernel
theorem dX5_pass_30 : decode cX5_pass 30 = .ok (.getfield 74, 3) := by decide +kernel
theorem dX5_pass_33 : decode cX5_pass 33 = .ok (.ifCond .ne 16, 3) := by decide +kernel
theorem dX5_pass_36 : decode cX5_pass 36 = .ok (.iload_n 2, 1) := by decide +kernel
theorem dX5_pass_37 : decode cX5_pass 37 = .ok (.aload_n 0, 1) := by decide +kernel
theorem dX5_pass_38 : decode cX5_pass 38 = .ok (.invokevirtual 144, 3) := by decide +kernel
theorem dX5_pass_41 : decode cX5_pass 41 = .ok (.iadd, 1) := by decide +kernel
theorem dX5_pass_42 : decode cX5_pass 42 = .ok (.istore_n 2, 1) := by decide +kernel
theorem dX5_pass_43 : decode cX5_pass 43 = .ok (.iinc 3 1, 3) := by decide +kernel
theorem dX5_pass_46 : decode cX5_pass 46 = .ok (.goto (-22), 3) := by decide +kernel
theorem dX5_pass_49 : decode cX5_pass 49 = .ok (.iload_n 2, 1) := by decide +kernel
theorem dX5_pass_50 : decode cX5_pass 50 = .ok (.ireturn, 1) := by decide +kernel
theorem dX5_now_0 : decode cX5_now 0 = .ok (.aload_n 0, 1) := by decide +kernel
theorem dX5_now_1 : decode cX5_now 1 = .ok (.iconst 0, 1) := by decide +kernel
theorem dX5_now_2 : decode cX5_now 2 = .ok (.putfield 74, 3) := by decide +kernel
theorem dX5_now_5 : decode cX5_now 5 = .ok (.aload_n 0, 1) := by decide +kernel
theorem dX5_now_6 : decode cX5_now 6 = .ok (.getfield 84, 3) := by decide +kernel
theorem dX5_now_9 : decode cX5_now 9 = .ok (.ireturn, 1) := by decide +kernel
