theorem dX6_count_65 : decode cX6_count 65 = .ok (.goto 5, 3) := by decide +kernel
theorem dX6_count_68 : decode cX6_count 68 = .ok (.bipush (-6), 2) := by decide +kernel
theorem dX6_count_70 : decode cX6_count 70 = .ok (.ireturn, 1) := by decide +kernel
theorem dX6_count_71 : decode cX6_count 71 = .ok (.aload_n 0, 1) := by decide +kernel
theorem dX6_count_72 : decode cX6_count 72 = .ok (.getfield 27, 3) := by decide +kernel
theorem dX6_count_75 : decode cX6_count 75 = .ok (.invokevirtual 80, 3) := by decide +kernel
theorem dX6_count_78 : decode cX6_count 78 = .ok (.ifCond .eq 13, 3) := by decide +kernel
theorem dX6_count_81 : decode cX6_count 81 = .ok (.aload_n 0, 1) := by decide +kernel
theorem dX6_count_82 : decode cX6_count 82 = .ok (.getfield 27, 3) := by decide +kernel
theorem dX6_count_85 : decode cX6_count 85 = .ok (.getfield 144, 3) := by decide +kernel
theorem dX6_count_88 : decode cX6_count 88 = .ok (.goto 5, 3) := by decide +kernel
theorem dX6_count_91 : decode cX6_count 91 = .ok (.bipush (-6), 2) := by decide +kernel
theorem dX6_count_93 : decode cX6_count 93 = .ok (.ireturn, 1) := by decide +kernel
theorem dX6_count_94 : decode cX6_count 94 = .ok (.aload_n 0, 1) := by decide +kernel
theorem dX6_count_95 : decode cX6_count 95 = .ok (.getfield 27, 3) := by decide +kernel
theorem dX6_count_98 : decode cX6_count 98 = .ok (.getfield 147, 3) := by decide +kernel
theorem dX6_count_101 : decode cX6_count 101 = .ok (.invokestatic 150, 3) := by decide +kernel
theorem dX6_count_104 : decode cX6_count 104 = .ok (.ireturn, 1) := by decide +kernel
theorem dX6_count_105 : decode cX6_count 105 = .ok (.aload_n 0, 1) := by decide +kernel
theorem dX6_count_106 : decode cX6_count 106 = .ok (.getfield 27, 3) := by decide +kernel
theorem dX6_count_109 : decode cX6_count 109 = .ok (.getfield 147, 3) := by decide +kernel
theorem dX6_count_112 : decode cX6_count 112 = .ok (.ireturn, 1) := by decide +kernel
theorem dX6_count_113 : decode cX6_count 113 = .ok (.aload_n 0, 1) := by decide +kernel
theorem dX6_count_114 : decode cX6_count 114 = .ok (.getfield 27, 3) := by decide +kernel
theorem dX6_count_117 : decode cX6_count 117 = .ok (.getfield 106, 3) := by decide +kernel
theorem dX6_count_120 : decode cX6_count 120 = .ok (.getfield 110, 3) := by decide +kernel
theorem dX6_count_123 : decode cX6_count 123 = .ok (.ireturn, 1) := by decide +kernel
theorem dX6_count_124 : decode cX6_count 124 = .ok (.aload_n 0, 1) := by decide +kernel
theorem dX6_count_125 : decode cX6_count 125 = .ok (.getfield 27, 3) := by decide +kernel
theorem dX6_count_128 : decode cX6_count 128 = .ok (.getfield 71, 3) := by decide +kernel
theorem dX6_count_131 : decode cX6_count 131 = .ok (.ireturn, 1) := by decide +kernel
theorem dX6_count_132 : decode cX6_count 132 = .ok (.aload_n 0, 1) := by decide +kernel
theorem dX6_count_133 : decode cX6_count 133 = .ok (.getfield 10, 3) := by decide +kernel
theorem dX6_count_136 : decode cX6_count 136 = .ok (.getfield 59, 3) := by decide +kernel
theorem dX6_count_139 : decode cX6_count 139 = .ok (.ireturn, 1) := by decide +kernel
theorem dX6_count_140 : decode cX6_count 140 = .ok (.aload_n 0, 1) := by decide +kernel
theorem dX6_count_141 : decode cX6_count 141 = .ok (.invokevirtual 155, 3) := by decide +kernel
theorem dX6_count_144 : decode cX6_count 144 = .ok (.ireturn, 1) := by decide +kernel
theorem dX6_count_145 : decode cX6_count 145 = .ok (.iload_n 1, 1) := by decide +kernel
theorem dX6_count_146 : decode cX6_count 146 = .ok (.bipush 10, 2) := by decide +kernel
theorem dX6_count_148 : decode cX6_count 148 = .ok (.if_icmp .lt 31, 3) := by decide +kernel
theorem dX6_count_151 : decode cX6_count 151 = .ok (.aload_n 0, 1) := by decide +kernel
theorem dX6_count_152 : decode cX6_count 152 = .ok (.getfield 27, 3) := by decide +kernel
theorem dX6_count_155 : decode cX6_count 155 = .ok (.iload_n 1, 1) := by decide +kernel
theorem dX6_count_156 : decode cX6_count 156 = .ok (.bipush 10, 2) := by decide +kernel
theorem dX6_count_158 : decode cX6_count 158 = .ok (.isub, 1) := by decide +kernel
theorem dX6_count_159 : decode cX6_count 159 = .ok (.invokevirtual 124, 3) := by decide +kernel
theorem dX6_count_162 : decode cX6_count 162 = .ok (.ifCond .eq 17, 3) := by decide +kernel
theorem dX6_count_165 : decode cX6_count 165 = .ok (.aload_n 0, 1) := by decide +kernel
theorem dX6_count_166 : decode cX6_count 166 = .ok (.getfield 27, 3) := by decide +kernel
theorem dX6_count_169 : decode cX6_count 169 = .ok (.iload_n 1, 1) := by decide +kernel
theorem dX6_count_170 : decode cX6_count 170 = .ok (.bipush 10, 2) := by decide +kernel
theorem dX6_count_172 : decode cX6_count 172 = .ok (.isub, 1) := by decide +kernel
theorem dX6_count_173 : decode cX6_count 173 = .ok (.invokevirtual 136, 3) := by decide +kernel
theorem dX6_count_176 : decode cX6_count 176 = .ok (.goto 5, 3) := by decide +kernel
theorem dX6_count_179 : decode cX6_count 179 = .ok (.bipush (-2), 2) := by decide +kernel
theorem dX6_count_181 : decode cX6_count 181 = .ok (.ireturn, 1) := by decide +kernel
set_option maxRecDepth 20000 in
theorem ggX6_keptImages_X4_only : GoodIn wsX6_keptImages wsX4_only := goodIn_r _ [5] (by decide +kernel) (by decide +kernel)
set_option maxRecDepth 20000 in
theorem gX6_keptImages_X4_only : GoodIn wsX6_keptImages (va_wsS RX6 158 yX4_only wsX4_only) := goodIn_app (goodIn_of _ (by decide +kernel)) ggX6_keptImages_X4_only
theorem dX6_keptImages_0 : decode cX6_keptImages 0 = .ok (.iconst 0, 1) := by decide +kernel
theorem dX6_keptImages_1 : decode cX6_keptImages 1 = .ok (.istore_n 1, 1) := by decide +kernel
theorem dX6_keptImages_2 : decode cX6_keptImages 2 = .ok (.iconst 0, 1) := by decide +kernel
theorem dX6_keptImages_3 : decode cX6_keptImages 3 = .ok (.istore_n 2, 1) := by decide +kernel
theorem dX6_keptImages_4 : decode cX6_keptImages 4 = .ok (.iload_n 2, 1) := by decide +kernel
theorem dX6_keptImages_5 : decode cX6_keptImages 5 = .ok (.iconst 2, 1) := by decide +kernel
theorem dX6_keptImages_6 : decode cX6_keptImages 6 = .ok (.if_icmp .ge 25, 3) := by decide +kernel
theorem dX6_keptImages_9 : decode cX6_keptImages 9 = .ok (.aload_n 0, 1) := by decide +kernel
theorem dX6_keptImages_10 : decode cX6_keptImages 10 = .ok (.getfield 30, 3) := by decide +kernel
theorem dX6_keptImages_13 : decode cX6_keptImages 13 = .ok (.iload_n 2, 1) := by decide +kernel
theorem dX6_keptImages_14 : decode cX6_keptImages 14 = .ok (.aaload, 1) := by decide +kernel
theorem dX6_keptImages_15 : decode cX6_keptImages 15 = .ok (.ifnull 10, 3) := by decide +kernel
theorem dX6_keptImages_18 : decode cX6_keptImages 18 = .ok (.iload_n 1, 1) := by decide +kernel
theorem dX6_keptImages_19 : decode cX6_keptImages 19 = .ok (.iload_n 2, 1) := by decide +kernel
theorem dX6_keptImages_20 : decode cX6_keptImages 20 = .ok (.invokestatic 158, 3) := by decide +kernel
theorem dX6_keptImages_23 : decode cX6_keptImages 23 = .ok (.ior, 1) := by decide +kernel
theorem dX6_keptImages_24 : decode cX6_keptImages 24 = .ok (.istore_n 1, 1) := by decide +kernel
theorem dX6_keptImages_25 : decode cX6_keptImages 25 = .ok (.iinc 2 1, 3) := by decide +kernel
theorem dX6_keptImages_28 : decode cX6_keptImages 28 = .ok (.goto (-24), 3) := by decide +kernel
theorem dX6_keptImages_31 : decode cX6_keptImages 31 = .ok (.iload_n 1, 1) := by decide +kernel
theorem dX6_keptImages_32 : decode cX6_keptImages 32 = .ok (.ireturn, 1) := by decide +kernel
set_option maxRecDepth 20000 in
theorem ggX6_shareFacts_X4_has : GoodIn wsX6_shareFacts wsX4_has := goodIn_r _ [5] (by decide +kernel) (by decide +kernel)
set_option maxRecDepth 20000 in
theorem gX6_shareFacts_X4_has : GoodIn wsX6_shareFacts (va_wsS RX6 96 yX4_has wsX4_has) := goodIn_app (goodIn_of _ (by decide +kernel)) ggX6_shareFacts_X4_has
set_option maxRecDepth 20000 in
theorem ggX6_shareFacts_X0_tells : GoodIn wsX6_shareFacts wsX0_tells := goodIn_r _ [10, 11, 12, 13, 14, 9, 15, 16, 17, 18, 19, 20, 41, 42, 43, 44, 45, 46, 47, 48, 49, 50, 51, 52] (by decide +kernel) (by decide +kernel)
set_option maxRecDepth 20000 in
theorem gX6_shareFacts_X0_tells : GoodIn wsX6_shareFacts (wsV RX6 162 RX0 yX0_tells wsX0_tells) := goodIn_app (goodIn_of _ (by decide +kernel)) ggX6_shareFacts_X0_tells
set_option maxRecDepth 20000 in
theorem ggX6_shareFacts_X5_fitting : GoodIn wsX6_shareFacts wsX5_fitting := goodIn_r _ [23, 24, 25, 26, 27, 28, 29, 19, 30, 31, 32, 33, 34, 35, 36] (by decide +kernel) (by decide +kernel)
set_option maxRecDepth 20000 in
theorem gX6_shareFacts_X5_fitting : GoodIn wsX6_shareFacts (va_wsS RX6 90 yX5_fitting wsX5_fitting) := goodIn_app (goodIn_of _ (by decide +kernel)) ggX6_shareFacts_X5_fitting
theorem dX6_shareFacts_0 : decode cX6_shareFacts 0 = .ok (.aload_n 0, 1) := by decide +kernel
theorem dX6_shareFacts_1 : decode cX6_shareFacts 1 = .ok (.getfield 27, 3) := by decide +kernel
theorem dX6_shareFacts_4 : decode cX6_shareFacts 4 = .ok (.getfield 147, 3) := by decide +kernel
theorem dX6_shareFacts_7 : decode cX6_shareFacts 7 = .ok (.iload_n 1, 1) := by decide +kernel
theorem dX6_shareFacts_8 : decode cX6_shareFacts 8 = .ok (.invokestatic 96, 3) := by decide +kernel
theorem dX6_shareFacts_11 : decode cX6_shareFacts 11 = .ok (.ifCond .ne 6, 3) := by decide +kernel
theorem dX6_shareFacts_14 : decode cX6_shareFacts 14 = .ok (.bipush (-6), 2) := by decide +kernel
theorem dX6_shareFacts_16 : decode cX6_shareFacts 16 = .ok (.ireturn, 1) := by decide +kernel
theorem dX6_shareFacts_17 : decode cX6_shareFacts 17 = .ok (.iload_n 2, 1) := by decide +kernel
theorem dX6_shareFacts_18 : decode cX6_shareFacts 18 = .ok (.ifCond .ne 13, 3) := by decide +kernel
theorem dX6_shareFacts_21 : decode cX6_shareFacts 21 = .ok (.aload_n 0, 1) := by decide +kernel
theorem dX6_shareFacts_22 : decode cX6_shareFacts 22 = .ok (.getfield 27, 3) := by decide +kernel
theorem dX6_shareFacts_25 : decode cX6_shareFacts 25 = .ok (.getfield 161, 3) := by decide +kernel
theorem dX6_shareFacts_28 : decode cX6_shareFacts 28 = .ok (.iload_n 1, 1) := by decide +kernel
theorem dX6_shareFacts_29 : decode cX6_shareFacts 29 = .ok (.iaload, 1) := by decide +kernel
theorem dX6_shareFacts_30 : decode cX6_shareFacts 30 = .ok (.ireturn, 1) := by decide +kernel
theorem dX6_shareFacts_31 : decode cX6_shareFacts 31 = .ok (.aload_n 0, 1) := by decide +kernel
theorem dX6_shareFacts_32 : decode cX6_shareFacts 32 = .ok (.getfield 27, 3) := by decide +kernel
theorem dX6_shareFacts_35 : decode cX6_shareFacts 35 = .ok (.iload_n 1, 1) := by decide +kernel
theorem dX6_shareFacts_36 : decode cX6_shareFacts 36 = .ok (.invokevirtual 162, 3) := by decide +kernel
theorem dX6_shareFacts_39 : decode cX6_shareFacts 39 = .ok (.istore_n 3, 1) := by decide +kernel
theorem dX6_shareFacts_40 : decode cX6_shareFacts 40 = .ok (.iload_n 2, 1) := by decide +kernel
theorem dX6_shareFacts_41 : decode cX6_shareFacts 41 = .ok (.iconst 1, 1) := by decide +kernel
theorem dX6_shareFacts_42 : decode cX6_shareFacts 42 = .ok (.if_icmp .ne 5, 3) := by decide +kernel
theorem dX6_shareFacts_45 : decode cX6_shareFacts 45 = .ok (.iload_n 3, 1) := by decide +kernel
theorem dX6_shareFacts_46 : decode cX6_shareFacts 46 = .ok (.ireturn, 1) := by decide +kernel
theorem dX6_shareFacts_47 : decode cX6_shareFacts 47 = .ok (.iload_n 3, 1) := by decide +kernel
theorem dX6_shareFacts_48 : decode cX6_shareFacts 48 = .ok (.iload_n 1, 1) := by decide +kernel
theorem dX6_shareFacts_49 : decode cX6_shareFacts 49 = .ok (.aload_n 0, 1) := by decide +kernel
theorem dX6_shareFacts_50 : decode cX6_shareFacts 50 = .ok (.getfield 27, 3) := by decide +kernel
theorem dX6_shareFacts_53 : decode cX6_shareFacts 53 = .ok (.getfield 84, 3) := by decide +kernel
theorem dX6_shareFacts_56 : decode cX6_shareFacts 56 = .ok (.aload_n 0, 1) := by decide +kernel
theorem dX6_shareFacts_57 : decode cX6_shareFacts 57 = .ok (.getfield 27, 3) := by decide +kernel
theorem dX6_shareFacts_60 : decode cX6_shareFacts 60 = .ok (.getfield 87, 3) := by decide +kernel
theorem dX6_shareFacts_63 : decode cX6_shareFacts 63 = .ok (.invokestatic 90, 3) := by decide +kernel
theorem dX6_shareFacts_66 : decode cX6_shareFacts 66 = .ok (.ifCond .eq 7, 3) := by decide +kernel
theorem dX6_shareFacts_69 : decode cX6_shareFacts 69 = .ok (.iconst 1, 1) := by decide +kernel
theorem dX6_shareFacts_70 : decode cX6_shareFacts 70 = .ok (.goto 4, 3) := by decide +kernel
theorem dX6_shareFacts_73 : decode cX6_shareFacts 73 = .ok (.iconst 0, 1) := by decide +kernel
theorem dX6_shareFacts_74 : decode cX6_shareFacts 74 = .ok (.ireturn, 1) := by decide +kernel
theorem dX6_isMember_0 : decode cX6_isMember 0 = .ok (.iload_n 0, 1) := by decide +kernel
theorem dX6_isMember_1 : decode cX6_isMember 1 = .ok (.iconst 1, 1) := by decide +kernel
theorem dX6_isMember_2 : decode cX6_isMember 2 = .ok (.if_icmp .lt 13, 3) := by decide +kernel
theorem dX6_isMember_5 : decode cX6_isMember 5 = .ok (.iload_n 0, 1) := by decide +kernel
theorem dX6_isMember_6 : decode cX6_isMember 6 = .ok (.bipush 7, 2) := by decide +kernel
theorem dX6_isMember_8 : decode cX6_isMember 8 = .ok (.if_icmp .gt 7, 3) := by decide +kernel
theorem dX6_isMember_11 : decode cX6_isMember 11 = .ok (.iconst 1, 1) := by decide +kernel
theorem dX6_isMember_12 : decode cX6_isMember 12 = .ok (.goto 4, 3) := by decide +kernel
theorem dX6_isMember_15 : decode cX6_isMember 15 = .ok (.iconst 0, 1) := by decide +kernel
theorem dX6_isMember_16 : decode cX6_isMember 16 = .ok (.ireturn, 1) := by decide +kernel
theorem dX6_isValue_0 : decode cX6_isValue 0 = .ok (.iload_n 0, 1) := by decide +kernel
theorem dX6_isValue_1 : decode cX6_isValue 1 = .ok (.ifCond .lt 13, 3) := by decide +kernel
theorem dX6_isValue_4 : decode cX6_isValue 4 = .ok (.iload_n 0, 1) := by decide +kernel
theorem dX6_isValue_5 : decode cX6_isValue 5 = .ok (.bipush 23, 2) := by decide +kernel
theorem dX6_isValue_7 : decode cX6_isValue 7 = .ok (.if_icmp .ge 7, 3) := by decide +kernel
theorem dX6_isValue_10 : decode cX6_isValue 10 = .ok (.iconst 1, 1) := by decide +kernel
theorem dX6_isValue_11 : decode cX6_isValue 11 = .ok (.goto 4, 3) := by decide +kernel
theorem dX6_isValue_14 : decode cX6_isValue 14 = .ok (.iconst 0, 1) := by decide +kernel
theorem dX6_isValue_15 : decode cX6_isValue 15 = .ok (.ireturn, 1) := by decide +kernel
theorem dX6_highestBend_0 : decode cX6_highestBend 0 = .ok (.iload_n 0, 1) := by decide +kernel
theorem dX6_highestBend_1 : decode cX6_highestBend 1 = .ok (.ifCond .eq 8, 3) := by decide +kernel
theorem dX6_highestBend_4 : decode cX6_highestBend 4 = .ok (.iload_n 0, 1) := by decide +kernel
theorem dX6_highestBend_5 : decode cX6_highestBend 5 = .ok (.iconst 1, 1) := by decide +kernel
theorem dX6_highestBend_6 : decode cX6_highestBend 6 = .ok (.if_icmp .ne 6, 3) := by decide +kernel
theorem dX6_highestBend_9 : decode cX6_highestBend 9 = .ok (.bipush 22, 2) := by decide +kernel
theorem dX6_highestBend_11 : decode cX6_highestBend 11 = .ok (.ireturn, 1) := by decide +kernel
theorem dX6_highestBend_12 : decode cX6_highestBend 12 = .ok (.iload_n 0, 1) := by decide +kernel
theorem dX6_highestBend_13 : decode cX6_highestBend 13 = .ok (.iconst 2, 1) := by decide +kernel
theorem dX6_highestBend_14 : decode cX6_highestBend 14 = .ok (.if_icmp .eq 8, 3) := by decide +kernel
theorem dX6_highestBend_17 : decode cX6_highestBend 17 = .ok (.iload_n 0, 1) := by decide +kernel
theorem dX6_highestBend_18 : decode cX6_highestBend 18 = .ok (.iconst 3, 1) := by decide +kernel
theorem dX6_highestBend_19 : decode cX6_highestBend 19 = .ok (.if_icmp .ne 8, 3) := by decide +kernel
theorem dX6_highestBend_22 : decode cX6_highestBend 22 = .ok (.bipush 7, 2) := by decide +kernel
theorem dX6_highestBend_24 : decode cX6_highestBend 24 = .ok (.goto 4, 3) := by decide +kernel
theorem dX6_highestBend_27 : decode cX6_highestBend 27 = .ok (.iconst 1, 1) := by decide +kernel
theorem dX6_highestBend_28 : decode cX6_highestBend 28 = .ok (.ireturn, 1) := by decide +kernel
set_option maxRecDepth 20000 in
theorem ggX7_init_X7_bentAt : GoodIn wsX7_init wsX7_bentAt := goodIn_r _ [16] (by decide +kernel) (by decide +kernel)
set_option maxRecDepth 20000 in
theorem gX7_init_X7_bentAt : GoodIn wsX7_init (va_wsS RX7 32 yX7_bentAt wsX7_bentAt) := goodIn_app (goodIn_of _ (by decide +kernel)) ggX7_init_X7_bentAt
theorem dX7_init_0 : decode cX7_init 0 = .ok (.aload_n 0, 1) := by decide +kernel
theorem dX7_init_1 : decode cX7_init 1 = .ok (.invokespecial 1, 3) := by decide +kernel
theorem dX7_init_4 : decode cX7_init 4 = .ok (.aload_n 0, 1) := by decide +kernel
theorem dX7_init_5 : decode cX7_init 5 = .ok (.sipush 371, 3) := by decide +kernel
theorem dX7_init_8 : decode cX7_init 8 = .ok (.newarray .int, 2) := by decide +kernel
theorem dX7_init_10 : decode cX7_init 10 = .ok (.putfield 7, 3) := by decide +kernel
theorem dX7_init_13 : decode cX7_init 13 = .ok (.aload_n 0, 1) := by decide +kernel
theorem dX7_init_14 : decode cX7_init 14 = .ok (.bipush 10, 2) := by decide +kernel
theorem dX7_init_16 : decode cX7_init 16 = .ok (.newarray .int, 2) := by decide +kernel
theorem dX7_init_18 : decode cX7_init 18 = .ok (.putfield 13, 3) := by decide +kernel
theorem dX7_init_21 : decode cX7_init 21 = .ok (.aload_n 0, 1) := by decide +kernel
theorem dX7_init_22 : decode cX7_init 22 = .ok (.iconst 5, 1) := by decide +kernel
theorem dX7_init_23 : decode cX7_init 23 = .ok (.newarray .int, 2) := by decide +kernel
theorem dX7_init_25 : decode cX7_init 25 = .ok (.putfield 16, 3) := by decide +kernel
theorem dX7_init_28 : decode cX7_init 28 = .ok (.aload_n 0, 1) := by decide +kernel
theorem dX7_init_29 : decode cX7_init 29 = .ok (.bipush 8, 2) := by decide +kernel
theorem dX7_init_31 : decode cX7_init 31 = .ok (.newarray .int, 2) := by decide +kernel
theorem dX7_init_33 : decode cX7_init 33 = .ok (.putfield 19, 3) := by decide +kernel
theorem dX7_init_36 : decode cX7_init 36 = .ok (.aload_n 0, 1) := by decide +kernel
theorem dX7_init_37 : decode cX7_init 37 = .ok (.iconst 5, 1) := by decide +kernel
theorem dX7_init_38 : decode cX7_init 38 = .ok (.newarray .int, 2) := by decide +kernel
theorem dX7_init_40 : decode cX7_init 40 = .ok (.putfield 22, 3) := by decide +kernel
theorem dX7_init_43 : decode cX7_init 43 = .ok (.aload_n 0, 1) := by decide +kernel
theorem dX7_init_44 : decode cX7_init 44 = .ok (.sipush 742, 3) := by decide +kernel
theorem dX7_init_47 : decode cX7_init 47 = .ok (.newarray .int, 2) := by decide +kernel
theorem dX7_init_49 : decode cX7_init 49 = .ok (.putfield 25, 3) := by decide +kernel
theorem dX7_init_52 : decode cX7_init 52 = .ok (.aload_n 0, 1) := by decide +kernel
theorem dX7_init_53 : decode cX7_init 53 = .ok (.iconst 2, 1) := by decide +kernel
theorem dX7_init_54 : decode cX7_init 54 = .ok (.newarray .boolean, 2) := by decide +kernel
theorem dX7_init_56 : decode cX7_init 56 = .ok (.putfield 28, 3) := by decide +kernel
theorem dX7_init_59 : decode cX7_init 59 = .ok (.iconst 1, 1) := by decide +kernel
theorem dX7_init_60 : decode cX7_init 60 = .ok (.istore_n 1, 1) := by decide +kernel
theorem dX7_init_61 : decode cX7_init 61 = .ok (.iload_n 1, 1) := by decide +kernel
theorem dX7_init_62 : decode cX7_init 62 = .ok (.bipush 7, 2) := by decide +kernel
theorem dX7_init_64 : decode cX7_init 64 = .ok (.if_icmp .gt 31, 3) := by decide +kernel
theorem dX7_init_67 : decode cX7_init 67 = .ok (.aload_n 0, 1) := by decide +kernel
theorem dX7_init_68 : decode cX7_init 68 = .ok (.getfield 7, 3) := by decide +kernel
theorem dX7_init_71 : decode cX7_init 71 = .ok (.bipush 40, 2) := by decide +kernel
theorem dX7_init_73 : decode cX7_init 73 = .ok (.iload_n 1, 1) := by decide +kernel
theorem dX7_init_74 : decode cX7_init 74 = .ok (.iadd, 1) := by decide +kernel
theorem dX7_init_75 : decode cX7_init 75 = .ok (.bipush (-6), 2) := by decide +kernel
theorem dX7_init_77 : decode cX7_init 77 = .ok (.iastore, 1) := by decide +kernel
theorem dX7_init_78 : decode cX7_init 78 = .ok (.aload_n 0, 1) := by decide +kernel
theorem dX7_init_79 : decode cX7_init 79 = .ok (.getfield 7, 3) := by decide +kernel
theorem dX7_init_82 : decode cX7_init 82 = .ok (.iload_n 1, 1) := by decide +kernel
theorem dX7_init_83 : decode cX7_init 83 = .ok (.iconst 4, 1) := by decide +kernel
theorem dX7_init_84 : decode cX7_init 84 = .ok (.invokestatic 32, 3) := by decide +kernel
theorem dX7_init_87 : decode cX7_init 87 = .ok (.iconst 1, 1) := by decide +kernel
theorem dX7_init_88 : decode cX7_init 88 = .ok (.iastore, 1) := by decide +kernel
theorem dX7_init_89 : decode cX7_init 89 = .ok (.iinc 1 1, 3) := by decide +kernel
theorem dX7_init_92 : decode cX7_init 92 = .ok (.goto (-31), 3) := by decide +kernel
theorem dX7_init_95 : decode cX7_init 95 = .ok (.aload_n 0, 1) := by decide +kernel
theorem dX7_init_96 : decode cX7_init 96 = .ok (.getfield 7, 3) := by decide +kernel
theorem dX7_init_99 : decode cX7_init 99 = .ok (.bipush 88, 2) := by decide +kernel
theorem dX7_init_101 : decode cX7_init 101 = .ok (.bipush (-6), 2) := by decide +kernel
theorem dX7_init_103 : decode cX7_init 103 = .ok (.iastore, 1) := by decide +kernel
theorem dX7_init_104 : decode cX7_init 104 = .ok (.aload_n 0, 1) := by decide +kernel
theorem dX7_init_105 : decode cX7_init 105 = .ok (.getfield 7, 3) := by decide +kernel
theorem dX7_init_108 : decode cX7_init 108 = .ok (.bipush 89, 2) := by decide +kernel
theorem dX7_init_110 : decode cX7_init 110 = .ok (.bipush (-6), 2) := by decide +kernel
theorem dX7_init_112 : decode cX7_init 112 = .ok (.iastore, 1) := by decide +kernel
theorem dX7_init_113 : decode cX7_init 113 = .ok (.return_, 1) := by decide +kernel
theorem dX7_in_0 : decode cX7_in 0 = .ok (.iload_n 0, 1) := by decide +kernel
theorem dX7_in_1 : decode cX7_in 1 = .ok (.iload_n 1, 1) := by decide +kernel
theorem dX7_in_2 : decode cX7_in 2 = .ok (.if_icmp .lt 12, 3) := by decide +kernel
theorem dX7_in_5 : decode cX7_in 5 = .ok (.iload_n 0, 1) := by decide +kernel
theorem dX7_in_6 : decode cX7_in 6 = .ok (.iload_n 2, 1) := by decide +kernel
theorem dX7_in_7 : decode cX7_in 7 = .ok (.if_icmp .gt 7, 3) := by decide +kernel
theorem dX7_in_10 : decode cX7_in 10 = .ok (.iconst 1, 1) := by decide +kernel
theorem dX7_in_11 : decode cX7_in 11 = .ok (.goto 4, 3) := by decide +kernel
theorem dX7_in_14 : decode cX7_in 14 = .ok (.iconst 0, 1) := by decide +kernel
theorem dX7_in_15 : decode cX7_in 15 = .ok (.ireturn, 1) := by decide +kernel
set_option maxRecDepth 20000 in
theorem ggX7_isMember_X7_in : GoodIn wsX7_isMember wsX7_in := goodIn_r _ [4] (by decide +kernel) (by decide +kernel)
set_option maxRecDepth 20000 in
theorem gX7_isMember_X7_in : GoodIn wsX7_isMember (va_wsS RX7 36 yX7_in wsX7_in) := goodIn_app (goodIn_of _ (by decide +kernel)) ggX7_isMember_X7_in
theorem dX7_isMember_0 : decode cX7_isMember 0 = .ok (.iload_n 0, 1) := by decide +kernel
theorem dX7_isMember_1 : decode cX7_isMember 1 = .ok (.iconst 1, 1) := by decide +kernel
theorem dX7_isMember_2 : decode cX7_isMember 2 = .ok (.bipush 7, 2) := by decide +kernel
theorem dX7_isMember_4 : decode cX7_isMember 4 = .ok (.invokestatic 36, 3) := by decide +kernel
theorem dX7_isMember_7 : decode cX7_isMember 7 = .ok (.ireturn, 1) := by decide +kernel
set_option maxRecDepth 20000 in
theorem ggX7_isValue_X7_in : GoodIn wsX7_isValue wsX7_in := goodIn_r _ [4] (by decide +kernel) (by decide +kernel)
set_option maxRecDepth 20000 in
theorem gX7_isValue_X7_in : GoodIn wsX7_isValue (va_wsS RX7 36 yX7_in wsX7_in) := goodIn_app (goodIn_of _ (by decide +kernel)) ggX7_isValue_X7_in
theorem dX7_isValue_0 : decode cX7_isValue 0 = .ok (.iload_n 0, 1) := by decide +kernel
theorem dX7_isValue_1 : decode cX7_isValue 1 = .ok (.iconst 0, 1) := by decide +kernel
theorem dX7_isValue_2 : decode cX7_isValue 2 = .ok (.bipush 22, 2) := by decide +kernel
theorem dX7_isValue_4 : decode cX7_isValue 4 = .ok (.invokestatic 36, 3) := by decide +kernel
theorem dX7_isValue_7 : decode cX7_isValue 7 = .ok (.ireturn, 1) := by decide +kernel
theorem dX7_bentAt_0 : decode cX7_bentAt 0 = .ok (.bipush 48, 2) := by decide +kernel
theorem dX7_bentAt_2 : decode cX7_bentAt 2 = .ok (.bipush 8, 2) := by decide +kernel
theorem dX7_bentAt_4 : decode cX7_bentAt 4 = .ok (.iload_n 1, 1) := by decide +kernel
theorem dX7_bentAt_5 : decode cX7_bentAt 5 = .ok (.imul, 1) := by decide +kernel
theorem dX7_bentAt_6 : decode cX7_bentAt 6 = .ok (.iadd, 1) := by decide +kernel
theorem dX7_bentAt_7 : decode cX7_bentAt 7 = .ok (.iload_n 0, 1) := by decide +kernel
theorem dX7_bentAt_8 : decode cX7_bentAt 8 = .ok (.iadd, 1) := by decide +kernel
theorem dX7_bentAt_9 : decode cX7_bentAt 9 = .ok (.ireturn, 1) := by decide +kernel
set_option maxRecDepth 20000 in
theorem ggX7_bentOf_X7_bentAt : GoodIn wsX7_bentOf wsX7_bentAt := goodIn_r _ [5] (by decide +kernel) (by decide +kernel)
set_option maxRecDepth 20000 in
theorem gX7_bentOf_X7_bentAt : GoodIn wsX7_bentOf (va_wsS RX7 32 yX7_bentAt wsX7_bentAt) := goodIn_app (goodIn_of _ (by decide +kernel)) ggX7_bentOf_X7_bentAt
theorem dX7_bentOf_0 : decode cX7_bentOf 0 = .ok (.aload_n 0, 1) := by decide +kernel
theorem dX7_bentOf_1 : decode cX7_bentOf 1 = .ok (.getfield 7, 3) := by decide +kernel
theorem dX7_bentOf_4 : decode cX7_bentOf 4 = .ok (.iload_n 1, 1) := by decide +kernel
theorem dX7_bentOf_5 : decode cX7_bentOf 5 = .ok (.iload_n 2, 1) := by decide +kernel
theorem dX7_bentOf_6 : decode cX7_bentOf 6 = .ok (.invokestatic 32, 3) := by decide +kernel
theorem dX7_bentOf_9 : decode cX7_bentOf 9 = .ok (.iaload, 1) := by decide +kernel
theorem dX7_bentOf_10 : decode cX7_bentOf 10 = .ok (.ireturn, 1) := by decide +kernel
theorem dX7_has_0 : decode cX7_has 0 = .ok (.iload_n 0, 1) := by decide +kernel
theorem dX7_has_1 : decode cX7_has 1 = .ok (.iload_n 1, 1) := by decide +kernel
theorem dX7_has_2 : decode cX7_has 2 = .ok (.ishr, 1) := by decide +kernel
theorem dX7_has_3 : decode cX7_has 3 = .ok (.iconst 1, 1) := by decide +kernel
theorem dX7_has_4 : decode cX7_has 4 = .ok (.iand, 1) := by decide +kernel
theorem dX7_has_5 : decode cX7_has 5 = .ok (.iconst 1, 1) := by decide +kernel
theorem dX7_has_6 : decode cX7_has 6 = .ok (.if_icmp .ne 7, 3) := by decide +kernel
theorem dX7_has_9 : decode cX7_has 9 = .ok (.iconst 1, 1) := by decide +kernel
theorem dX7_has_10 : decode cX7_has 10 = .ok (.goto 4, 3) := by decide +kernel
theorem dX7_has_13 : decode cX7_has 13 = .ok (.iconst 0, 1) := by decide +kernel
theorem dX7_has_14 : decode cX7_has 14 = .ok (.ireturn, 1) := by decide +kernel
theorem dX7_isDealt_0 : decode cX7_isDealt 0 = .ok (.aload_n 0, 1) := by decide +kernel
theorem dX7_isDealt_1 : decode cX7_isDealt 1 = .ok (.getfield 7, 3) := by decide +kernel
theorem dX7_isDealt_4 : decode cX7_isDealt 4 = .ok (.bipush 89, 2) := by decide +kernel
theorem dX7_isDealt_6 : decode cX7_isDealt 6 = .ok (.iaload, 1) := by decide +kernel
theorem dX7_isDealt_7 : decode cX7_isDealt 7 = .ok (.ifCond .lt 7, 3) := by decide +kernel
theorem dX7_isDealt_10 : decode cX7_isDealt 10 = .ok (.iconst 1, 1) := by decide +kernel
theorem dX7_isDealt_11 : decode cX7_isDealt 11 = .ok (.goto 4, 3) := by decide +kernel
theorem dX7_isDealt_14 : decode cX7_isDealt 14 = .ok (.iconst 0, 1) := by decide +kernel
theorem dX7_isDealt_15 : decode cX7_isDealt 15 = .ok (.ireturn, 1) := by decide +kernel
theorem dX7_mod_0 : decode cX7_mod 0 = .ok (.iload_n 0, 1) := by decide +kernel
theorem dX7_mod_1 : decode cX7_mod 1 = .ok (.bipush 23, 2) := by decide +kernel
theorem dX7_mod_3 : decode cX7_mod 3 = .ok (.irem, 1) := by decide +kernel
theorem dX7_mod_4 : decode cX7_mod 4 = .ok (.istore_n 1, 1) := by decide +kernel
theorem dX7_mod_5 : decode cX7_mod 5 = .ok (.iload_n 1, 1) := by decide +kernel
theorem dX7_mod_6 : decode cX7_mod 6 = .ok (.ifCond .ge 10, 3) := by decide +kernel
theorem dX7_mod_9 : decode cX7_mod 9 = .ok (.iload_n 1, 1) := by decide +kernel
theorem dX7_mod_10 : decode cX7_mod 10 = .ok (.bipush 23, 2) := by decide +kernel
theorem dX7_mod_12 : decode cX7_mod 12 = .ok (.iadd, 1) := by decide +kernel
theorem dX7_mod_13 : decode cX7_mod 13 = .ok (.goto 4, 3) := by decide +kernel
theorem dX7_mod_16 : decode cX7_mod 16 = .ok (.iload_n 1, 1) := by decide +kernel
theorem dX7_mod_17 : decode cX7_mod 17 = .ok (.ireturn, 1) := by decide +kernel
theorem dX7_power_0 : decode cX7_power 0 = .ok (.iconst 1, 1) := by decide +kernel
theorem dX7_power_1 : decode cX7_power 1 = .ok (.istore_n 3, 1) := by decide +kernel
theorem dX7_power_2 : decode cX7_power 2 = .ok (.iconst 0, 1) := by decide +kernel
theorem dX7_power_3 : decode cX7_power 3 = .ok (.istore 4, 2) := by decide +kernel
theorem dX7_power_5 : decode cX7_power 5 = .ok (.iload 4, 2) := by decide +kernel
theorem dX7_power_7 : decode cX7_power 7 = .ok (.iload_n 1, 1) := by decide +kernel
theorem dX7_power_8 : decode cX7_power 8 = .ok (.if_icmp .ge 15, 3) := by decide +kernel
theorem dX7_power_11 : decode cX7_power 11 = .ok (.iload_n 3, 1) := by decide +kernel
theorem dX7_power_12 : decode cX7_power 12 = .ok (.iload_n 0, 1) := by decide +kernel
theorem dX7_power_13 : decode cX7_power 13 = .ok (.imul, 1) := by decide +kernel
theorem dX7_power_14 : decode cX7_power 14 = .ok (.iload_n 2, 1) := by decide +kernel
theorem dX7_power_15 : decode cX7_power 15 = .ok (.irem, 1) := by decide +kernel
theorem dX7_power_16 : decode cX7_power 16 = .ok (.istore_n 3, 1) := by decide +kernel
theorem dX7_power_17 : decode cX7_power 17 = .ok (.iinc 4 1, 3) := by decide +kernel
theorem dX7_power_20 : decode cX7_power 20 = .ok (.goto (-15), 3) := by decide +kernel
theorem dX7_power_23 : decode cX7_power 23 = .ok (.iload_n 3, 1) := by decide +kernel
theorem dX7_power_24 : decode cX7_power 24 = .ok (.ireturn, 1) := by decide +kernel
set_option maxRecDepth 20000 in
theorem ggX7_sealOf_X7_power : GoodIn wsX7_sealOf wsX7_power := goodIn_r _ [4] (by decide +kernel) (by decide +kernel)
set_option maxRecDepth 20000 in
theorem gX7_sealOf_X7_power : GoodIn wsX7_sealOf (va_wsS RX7 40 yX7_power wsX7_power) := goodIn_app (goodIn_of _ (by decide +kernel)) ggX7_sealOf_X7_power
theorem dX7_sealOf_0 : decode cX7_sealOf 0 = .ok (.iconst 4, 1) := by decide +kernel
theorem dX7_sealOf_1 : decode cX7_sealOf 1 = .ok (.iload_n 0, 1) := by decide +kernel
theorem dX7_sealOf_2 : decode cX7_sealOf 2 = .ok (.bipush 47, 2) := by decide +kernel
theorem dX7_sealOf_4 : decode cX7_sealOf 4 = .ok (.invokestatic 40, 3) := by decide +kernel
theorem dX7_sealOf_7 : decode cX7_sealOf 7 = .ok (.ireturn, 1) := by decide +kernel
set_option maxRecDepth 20000 in
theorem ggX7_row_X7_in : GoodIn wsX7_row wsX7_in := goodIn_r _ [5] (by decide +kernel) (by decide +kernel)
set_option maxRecDepth 20000 in
theorem gX7_row_X7_in : GoodIn wsX7_row (va_wsS RX7 36 yX7_in wsX7_in) := goodIn_app (goodIn_of _ (by decide +kernel)) ggX7_row_X7_in
set_option maxRecDepth 20000 in
theorem ggX7_row_X7_isValue : GoodIn wsX7_row wsX7_isValue := goodIn_r _ [8, 2, 3, 4, 5] (by decide +kernel) (by decide +kernel)
set_option maxRecDepth 20000 in
theorem gX7_row_X7_isValue : GoodIn wsX7_row (va_wsS RX7 44 yX7_isValue wsX7_isValue) := goodIn_app (goodIn_of _ (by decide +kernel)) ggX7_row_X7_isValue
theorem dX7_row_0 : decode cX7_row 0 = .ok (.iload_n 1, 1) := by decide +kernel
theorem dX7_row_1 : decode cX7_row 1 = .ok (.iconst 0, 1) := by decide +kernel
theorem dX7_row_2 : decode cX7_row 2 = .ok (.bipush 7, 2) := by decide +kernel
theorem dX7_row_4 : decode cX7_row 4 = .ok (.invokestatic 36, 3) := by decide +kernel
theorem dX7_row_7 : decode cX7_row 7 = .ok (.ifCond .ne 5, 3) := by decide +kernel
theorem dX7_row_10 : decode cX7_row 10 = .ok (.iconst (-1), 1) := by decide +kernel
theorem dX7_row_11 : decode cX7_row 11 = .ok (.ireturn, 1) := by decide +kernel
theorem dX7_row_12 : decode cX7_row 12 = .ok (.iload_n 2, 1) := by decide +kernel
theorem dX7_row_13 : decode cX7_row 13 = .ok (.iconst 0, 1) := by decide +kernel
theorem dX7_row_14 : decode cX7_row 14 = .ok (.iconst 4, 1) := by decide +kernel
theorem dX7_row_15 : decode cX7_row 15 = .ok (.invokestatic 36, 3) := by decide +kernel
theorem dX7_row_18 : decode cX7_row 18 = .ok (.ifCond .eq 10, 3) := by decide +kernel
theorem dX7_row_21 : decode cX7_row 21 = .ok (.iload_n 3, 1) := by decide +kernel
theorem dX7_row_22 : decode cX7_row 22 = .ok (.invokestatic 44, 3) := by decide +kernel
theorem dX7_row_25 : decode cX7_row 25 = .ok (.ifCond .ne 6, 3) := by decide +kernel
theorem dX7_row_28 : decode cX7_row 28 = .ok (.bipush (-2), 2) := by decide +kernel
theorem dX7_row_30 : decode cX7_row 30 = .ok (.ireturn, 1) := by decide +kernel
theorem dX7_row_31 : decode cX7_row 31 = .ok (.aload_n 0, 1) := by decide +kernel
theorem dX7_row_32 : decode cX7_row 32 = .ok (.getfield 7, 3) := by decide +kernel
theorem dX7_row_35 : decode cX7_row 35 = .ok (.iconst 0, 1) := by decide +kernel
theorem dX7_row_36 : decode cX7_row 36 = .ok (.iconst 5, 1) := by decide +kernel
theorem dX7_row_37 : decode cX7_row 37 = .ok (.iload_n 1, 1) := by decide +kernel
theorem dX7_row_38 : decode cX7_row 38 = .ok (.imul, 1) := by decide +kernel
theorem dX7_row_39 : decode cX7_row 39 = .ok (.iadd, 1) := by decide +kernel
theorem dX7_row_40 : decode cX7_row 40 = .ok (.iload_n 2, 1) := by decide +kernel
theorem dX7_row_41 : decode cX7_row 41 = .ok (.iadd, 1) := by decide +kernel
theorem dX7_row_42 : decode cX7_row 42 = .ok (.iaload, 1) := by decide +kernel
theorem dX7_row_43 : decode cX7_row 43 = .ok (.istore 4, 2) := by decide +kernel
theorem dX7_row_45 : decode cX7_row 45 = .ok (.aload_n 0, 1) := by decide +kernel
theorem dX7_row_46 : decode cX7_row 46 = .ok (.getfield 7, 3) := by decide +kernel
theorem dX7_row_49 : decode cX7_row 49 = .ok (.iconst 0, 1) := by decide +kernel
theorem dX7_row_50 : decode cX7_row 50 = .ok (.iconst 5, 1) := by decide +kernel
theorem dX7_row_51 : decode cX7_row 51 = .ok (.iload_n 1, 1) := by decide +kernel
theorem dX7_row_52 : decode cX7_row 52 = .ok (.imul, 1) := by decide +kernel
theorem dX7_row_53 : decode cX7_row 53 = .ok (.iadd, 1) := by decide +kernel
theorem dX7_row_54 : decode cX7_row 54 = .ok (.iload_n 2, 1) := by decide +kernel
theorem dX7_row_55 : decode cX7_row 55 = .ok (.iadd, 1) := by decide +kernel
theorem dX7_row_56 : decode cX7_row 56 = .ok (.iload_n 3, 1) := by decide +kernel
theorem dX7_row_57 : decode cX7_row 57 = .ok (.iastore, 1) := by decide +kernel
theorem dX7_row_58 : decode cX7_row 58 = .ok (.iload 4, 2) := by decide +kernel
theorem dX7_row_60 : decode cX7_row 60 = .ok (.ireturn, 1) := by decide +kernel
set_option maxRecDepth 20000 in
theorem ggX7_bent_X7_isMember : GoodIn wsX7_bent wsX7_isMember := goodIn_r _ [5, 6, 7, 4, 8] (by decide +kernel) (by decide +kernel)
set_option maxRecDepth 20000 in
theorem gX7_bent_X7_isMember : GoodIn wsX7_bent (va_wsS RX7 48 yX7_isMember wsX7_isMember) := goodIn_app (goodIn_of _ (by decide +kernel)) ggX7_bent_X7_isMember
set_option maxRecDepth 20000 in
theorem ggX7_bent_X7_in : GoodIn wsX7_bent wsX7_in := goodIn_r _ [8] (by decide +kernel) (by decide +kernel)
set_option maxRecDepth 20000 in
theorem gX7_bent_X7_in : GoodIn wsX7_bent (va_wsS RX7 36 yX7_in wsX7_in) := goodIn_app (goodIn_of _ (by decide +kernel)) ggX7_bent_X7_in
set_option maxRecDepth 20000 in
theorem ggX7_bent_X7_bentOf : GoodIn wsX7_bent wsX7_bentOf := goodIn_r _ [12, 1, 13, 14, 4, 15, 16, 17, 18, 19, 20, 21, 22, 23, 24] (by decide +kernel) (by decide +kernel)
set_option maxRecDepth 20000 in
theorem gX7_bent_X7_bentOf : GoodIn wsX7_bent (wsV RX7 51 RX7 yX7_bentOf wsX7_bentOf) := goodIn_app (goodIn_of _ (by decide +kernel)) ggX7_bent_X7_bentOf
set_option maxRecDepth 20000 in
theorem ggX7_bent_X7_bentAt : GoodIn wsX7_bent wsX7_bentAt := goodIn_r _ [15] (by decide +kernel) (by decide +kernel)
set_option maxRecDepth 20000 in
theorem gX7_bent_X7_bentAt : GoodIn wsX7_bent (va_wsS RX7 32 yX7_bentAt wsX7_bentAt) := goodIn_app (goodIn_of _ (by decide +kernel)) ggX7_bent_X7_bentAt
theorem dX7_bent_0 : decode cX7_bent 0 = .ok (.iload_n 1, 1) := by decide +kernel
theorem dX7_bent_1 : decode cX7_bent 1 = .ok (.invokestatic 48, 3) := by decide +kernel
theorem dX7_bent_4 : decode cX7_bent 4 = .ok (.ifCond .ne 5, 3) := by decide +kernel
theorem dX7_bent_7 : decode cX7_bent 7 = .ok (.iconst (-1), 1) := by decide +kernel
theorem dX7_bent_8 : decode cX7_bent 8 = .ok (.ireturn, 1) := by decide +kernel
theorem dX7_bent_9 : decode cX7_bent 9 = .ok (.iload_n 2, 1) := by decide +kernel
theorem dX7_bent_10 : decode cX7_bent 10 = .ok (.iconst 0, 1) := by decide +kernel
theorem dX7_bent_11 : decode cX7_bent 11 = .ok (.iconst 4, 1) := by decide +kernel
theorem dX7_bent_12 : decode cX7_bent 12 = .ok (.invokestatic 36, 3) := by decide +kernel
theorem dX7_bent_15 : decode cX7_bent 15 = .ok (.ifCond .eq 32, 3) := by decide +kernel
theorem dX7_bent_18 : decode cX7_bent 18 = .ok (.iload_n 3, 1) := by decide +kernel
theorem dX7_bent_19 : decode cX7_bent 19 = .ok (.iconst 0, 1) := by decide +kernel
theorem dX7_bent_20 : decode cX7_bent 20 = .ok (.iload_n 2, 1) := by decide +kernel
theorem dX7_bent_21 : decode cX7_bent 21 = .ok (.iconst 2, 1) := by decide +kernel
theorem dX7_bent_22 : decode cX7_bent 22 = .ok (.if_icmp .ge 8, 3) := by decide +kernel
theorem dX7_bent_25 : decode cX7_bent 25 = .ok (.bipush 22, 2) := by decide +kernel
theorem dX7_bent_27 : decode cX7_bent 27 = .ok (.goto 14, 3) := by decide +kernel
theorem dX7_bent_30 : decode cX7_bent 30 = .ok (.iload_n 2, 1) := by decide +kernel
theorem dX7_bent_31 : decode cX7_bent 31 = .ok (.iconst 4, 1) := by decide +kernel
theorem dX7_bent_32 : decode cX7_bent 32 = .ok (.if_icmp .ge 8, 3) := by decide +kernel
theorem dX7_bent_35 : decode cX7_bent 35 = .ok (.bipush 7, 2) := by decide +kernel
theorem dX7_bent_37 : decode cX7_bent 37 = .ok (.goto 4, 3) := by decide +kernel
theorem dX7_bent_40 : decode cX7_bent 40 = .ok (.iconst 1, 1) := by decide +kernel
theorem dX7_bent_41 : decode cX7_bent 41 = .ok (.invokestatic 36, 3) := by decide +kernel
theorem dX7_bent_44 : decode cX7_bent 44 = .ok (.ifCond .ne 6, 3) := by decide +kernel
theorem dX7_bent_47 : decode cX7_bent 47 = .ok (.bipush (-2), 2) := by decide +kernel
theorem dX7_bent_49 : decode cX7_bent 49 = .ok (.ireturn, 1) := by decide +kernel
theorem dX7_bent_50 : decode cX7_bent 50 = .ok (.aload_n 0, 1) := by decide +kernel
theorem dX7_bent_51 : decode cX7_bent 51 = .ok (.iload_n 1, 1) := by decide +kernel
theorem dX7_bent_52 : decode cX7_bent 52 = .ok (.iload_n 2, 1) := by decide +kernel
theorem dX7_bent_53 : decode cX7_bent 53 = .ok (.invokevirtual 51, 3) := by decide +kernel
theorem dX7_bent_56 : decode cX7_bent 56 = .ok (.istore 4, 2) := by decide +kernel
theorem dX7_bent_58 : decode cX7_bent 58 = .ok (.aload_n 0, 1) := by decide +kernel
theorem dX7_bent_59 : decode cX7_bent 59 = .ok (.getfield 7, 3) := by decide +kernel
theorem dX7_bent_62 : decode cX7_bent 62 = .ok (.iload_n 1, 1) := by decide +kernel
theorem dX7_bent_63 : decode cX7_bent 63 = .ok (.iload_n 2, 1) := by decide +kernel
theorem dX7_bent_64 : decode cX7_bent 64 = .ok (.invokestatic 32, 3) := by decide +kernel
theorem dX7_bent_67 : decode cX7_bent 67 = .ok (.iload_n 3, 1) := by decide +kernel
theorem dX7_bent_68 : decode cX7_bent 68 = .ok (.iastore, 1) := by decide +kernel
theorem dX7_bent_69 : decode cX7_bent 69 = .ok (.iload 4, 2) := by decide +kernel
theorem dX7_bent_71 : decode cX7_bent 71 = .ok (.ireturn, 1) := by decide +kernel
theorem dX7_hasShare_0 : decode cX7_hasShare 0 = .ok (.aload_n 0, 1) := by decide +kernel
theorem dX7_hasShare_1 : decode cX7_hasShare 1 = .ok (.getfield 7, 3) := by decide +kernel
theorem dX7_hasShare_4 : decode cX7_hasShare 4 = .ok (.bipush 40, 2) := by decide +kernel
theorem dX7_hasShare_6 : decode cX7_hasShare 6 = .ok (.iload_n 1, 1) := by decide +kernel
theorem dX7_hasShare_7 : decode cX7_hasShare 7 = .ok (.iadd, 1) := by decide +kernel
theorem dX7_hasShare_8 : decode cX7_hasShare 8 = .ok (.iaload, 1) := by decide +kernel
theorem dX7_hasShare_9 : decode cX7_hasShare 9 = .ok (.ifCond .lt 7, 3) := by decide +kernel
theorem dX7_hasShare_12 : decode cX7_hasShare 12 = .ok (.iconst 1, 1) := by decide +kernel
theorem dX7_hasShare_13 : decode cX7_hasShare 13 = .ok (.goto 4, 3) := by decide +kernel
theorem dX7_hasShare_16 : decode cX7_hasShare 16 = .ok (.iconst 0, 1) := by decide +kernel
theorem dX7_hasShare_17 : decode cX7_hasShare 17 = .ok (.ireturn, 1) := by decide +kernel
set_option maxRecDepth 20000 in
theorem ggX7_told_X7_bentOf : GoodIn wsX7_told wsX7_bentOf := goodIn_r _ [6, 1, 7, 8, 5, 9, 13, 14, 15, 16, 17, 18, 19, 20, 21] (by decide +kernel) (by decide +kernel)
set_option maxRecDepth 20000 in
theorem gX7_told_X7_bentOf : GoodIn wsX7_told (wsV RX7 51 RX7 yX7_bentOf wsX7_bentOf) := goodIn_app (goodIn_of _ (by decide +kernel)) ggX7_told_X7_bentOf
set_option maxRecDepth 20000 in
theorem ggX7_told_X7_mod : GoodIn wsX7_told wsX7_mod := goodIn_r _ [12] (by decide +kernel) (by decide +kernel)
set_option maxRecDepth 20000 in
theorem gX7_told_X7_mod : GoodIn wsX7_told (va_wsS RX7 54 yX7_mod wsX7_mod) := goodIn_app (goodIn_of _ (by decide +kernel)) ggX7_told_X7_mod
theorem dX7_told_0 : decode cX7_told 0 = .ok (.aload_n 0, 1) := by decide +kernel
theorem dX7_told_1 : decode cX7_told 1 = .ok (.getfield 7, 3) := by decide +kernel
theorem dX7_told_4 : decode cX7_told 4 = .ok (.bipush 40, 2) := by decide +kernel
theorem dX7_told_6 : decode cX7_told 6 = .ok (.iload_n 1, 1) := by decide +kernel
theorem dX7_told_7 : decode cX7_told 7 = .ok (.iadd, 1) := by decide +kernel
theorem dX7_told_8 : decode cX7_told 8 = .ok (.iaload, 1) := by decide +kernel
theorem dX7_told_9 : decode cX7_told 9 = .ok (.aload_n 0, 1) := by decide +kernel
theorem dX7_told_10 : decode cX7_told 10 = .ok (.iload_n 1, 1) := by decide +kernel
theorem dX7_told_11 : decode cX7_told 11 = .ok (.iconst 0, 1) := by decide +kernel
theorem dX7_told_12 : decode cX7_told 12 = .ok (.invokevirtual 51, 3) := by decide +kernel
theorem dX7_told_15 : decode cX7_told 15 = .ok (.iadd, 1) := by decide +kernel
theorem dX7_told_16 : decode cX7_told 16 = .ok (.invokestatic 54, 3) := by decide +kernel
theorem dX7_told_19 : decode cX7_told 19 = .ok (.ireturn, 1) := by decide +kernel
set_option maxRecDepth 20000 in
theorem ggX7_isFit_X7_power : GoodIn wsX7_isFit wsX7_power := goodIn_r _ [5] (by decide +kernel) (by decide +kernel)
set_option maxRecDepth 20000 in
theorem gX7_isFit_X7_power : GoodIn wsX7_isFit (va_wsS RX7 40 yX7_power wsX7_power) := goodIn_app (goodIn_of _ (by decide +kernel)) ggX7_isFit_X7_power
set_option maxRecDepth 20000 in
theorem ggX7_isFit_X7_sealOf : GoodIn wsX7_isFit wsX7_sealOf := goodIn_r _ [8, 2, 3, 4, 5] (by decide +kernel) (by decide +kernel)
set_option maxRecDepth 20000 in
theorem gX7_isFit_X7_sealOf : GoodIn wsX7_isFit (va_wsS RX7 58 yX7_sealOf wsX7_sealOf) := goodIn_app (goodIn_of _ (by decide +kernel)) ggX7_isFit_X7_sealOf
theorem dX7_isFit_0 : decode cX7_isFit 0 = .ok (.iconst 1, 1) := by decide +kernel
theorem dX7_isFit_1 : decode cX7_isFit 1 = .ok (.istore_n 3, 1) := by decide +kernel
theorem dX7_isFit_2 : decode cX7_isFit 2 = .ok (.iconst 0, 1) := by decide +kernel
theorem dX7_isFit_3 : decode cX7_isFit 3 = .ok (.istore 4, 2) := by decide +kernel
theorem dX7_isFit_5 : decode cX7_isFit 5 = .ok (.iload 4, 2) := by decide +kernel
theorem dX7_isFit_7 : decode cX7_isFit 7 = .ok (.aload_n 0, 1) := by decide +kernel
theorem dX7_isFit_8 : decode cX7_isFit 8 = .ok (.getfield 7, 3) := by decide +kernel
theorem dX7_isFit_11 : decode cX7_isFit 11 = .ok (.bipush 88, 2) := by decide +kernel
theorem dX7_isFit_13 : decode cX7_isFit 13 = .ok (.iaload, 1) := by decide +kernel
theorem dX7_isFit_14 : decode cX7_isFit 14 = .ok (.if_icmp .ge 38, 3) := by decide +kernel
theorem dX7_isFit_17 : decode cX7_isFit 17 = .ok (.iload_n 3, 1) := by decide +kernel
theorem dX7_isFit_18 : decode cX7_isFit 18 = .ok (.aload_n 0, 1) := by decide +kernel
theorem dX7_isFit_19 : decode cX7_isFit 19 = .ok (.getfield 7, 3) := by decide +kernel
theorem dX7_isFit_22 : decode cX7_isFit 22 = .ok (.bipush 90, 2) := by decide +kernel
theorem dX7_isFit_24 : decode cX7_isFit 24 = .ok (.iload 4, 2) := by decide +kernel
theorem dX7_isFit_26 : decode cX7_isFit 26 = .ok (.iadd, 1) := by decide +kernel
theorem dX7_isFit_27 : decode cX7_isFit 27 = .ok (.iaload, 1) := by decide +kernel
theorem dX7_isFit_28 : decode cX7_isFit 28 = .ok (.iload_n 2, 1) := by decide +kernel
theorem dX7_isFit_29 : decode cX7_isFit 29 = .ok (.iload 4, 2) := by decide +kernel
theorem dX7_isFit_31 : decode cX7_isFit 31 = .ok (.bipush 23, 2) := by decide +kernel
theorem dX7_isFit_33 : decode cX7_isFit 33 = .ok (.invokestatic 40, 3) := by decide +kernel
theorem dX7_isFit_36 : decode cX7_isFit 36 = .ok (.bipush 47, 2) := by decide +kernel
theorem dX7_isFit_38 : decode cX7_isFit 38 = .ok (.invokestatic 40, 3) := by decide +kernel
theorem dX7_isFit_41 : decode cX7_isFit 41 = .ok (.imul, 1) := by decide +kernel
theorem dX7_isFit_42 : decode cX7_isFit 42 = .ok (.bipush 47, 2) := by decide +kernel
theorem dX7_isFit_44 : decode cX7_isFit 44 = .ok (.irem, 1) := by decide +kernel
theorem dX7_isFit_45 : decode cX7_isFit 45 = .ok (.istore_n 3, 1) := by decide +kernel
theorem dX7_isFit_46 : decode cX7_isFit 46 = .ok (.iinc 4 1, 3) := by decide +kernel
theorem dX7_isFit_49 : decode cX7_isFit 49 = .ok (.goto (-44), 3) := by decide +kernel
theorem dX7_isFit_52 : decode cX7_isFit 52 = .ok (.iload_n 3, 1) := by decide +kernel
theorem dX7_isFit_53 : decode cX7_isFit 53 = .ok (.iload_n 1, 1) := by decide +kernel
theorem dX7_isFit_54 : decode cX7_isFit 54 = .ok (.invokestatic 58, 3) := by decide +kernel
theorem dX7_isFit_57 : decode cX7_isFit 57 = .ok (.if_icmp .ne 7, 3) := by decide +kernel
theorem dX7_isFit_60 : decode cX7_isFit 60 = .ok (.iconst 1, 1) := by decide +kernel
theorem dX7_isFit_61 : decode cX7_isFit 61 = .ok (.goto 4, 3) := by decide +kernel
theorem dX7_isFit_64 : decode cX7_isFit 64 = .ok (.iconst 0, 1) := by decide +kernel
theorem dX7_isFit_65 : decode cX7_isFit 65 = .ok (.ireturn, 1) := by decide +kernel
set_option maxRecDepth 20000 in
theorem ggX7_member_X7_isMember : GoodIn wsX7_member wsX7_isMember := goodIn_r _ [5, 6, 7, 4, 8] (by decide +kernel) (by decide +kernel)
set_option maxRecDepth 20000 in
theorem gX7_member_X7_isMember : GoodIn wsX7_member (va_wsS RX7 48 yX7_isMember wsX7_isMember) := goodIn_app (goodIn_of _ (by decide +kernel)) ggX7_member_X7_isMember
set_option maxRecDepth 20000 in
theorem ggX7_member_X7_in : GoodIn wsX7_member wsX7_in := goodIn_r _ [8] (by decide +kernel) (by decide +kernel)
set_option maxRecDepth 20000 in
theorem gX7_member_X7_in : GoodIn wsX7_member (va_wsS RX7 36 yX7_in wsX7_in) := goodIn_app (goodIn_of _ (by decide +kernel)) ggX7_member_X7_in
set_option maxRecDepth 20000 in
theorem ggX7_member_X7_bentOf : GoodIn wsX7_member wsX7_bentOf := goodIn_r _ [12, 1, 13, 14, 4, 15, 37, 38, 39, 40, 41, 42, 43, 44, 45] (by decide +kernel) (by decide +kernel)
set_option maxRecDepth 20000 in
theorem gX7_member_X7_bentOf : GoodIn wsX7_member (wsV RX7 51 RX7 yX7_bentOf wsX7_bentOf) := goodIn_app (goodIn_of _ (by decide +kernel)) ggX7_member_X7_bentOf
set_option maxRecDepth 20000 in
theorem ggX7_member_X7_hasShare : GoodIn wsX7_member wsX7_hasShare := goodIn_r _ [19, 1, 37, 38, 39, 40, 41, 42, 43, 44, 45] (by decide +kernel) (by decide +kernel)
set_option maxRecDepth 20000 in
theorem gX7_member_X7_hasShare : GoodIn wsX7_member (wsV RX7 61 RX7 yX7_hasShare wsX7_hasShare) := goodIn_app (goodIn_of _ (by decide +kernel)) ggX7_member_X7_hasShare
set_option maxRecDepth 20000 in
theorem ggX7_member_X7_told : GoodIn wsX7_member wsX7_told := goodIn_r _ [23, 1, 9, 10, 11, 4, 12, 13, 14, 15, 24, 25, 26, 37, 38, 39, 40, 41, 42, 43, 44, 45] (by decide +kernel) (by decide +kernel)
set_option maxRecDepth 20000 in
theorem gX7_member_X7_told : GoodIn wsX7_member (wsV RX7 64 RX7 yX7_told wsX7_told) := goodIn_app (goodIn_of _ (by decide +kernel)) ggX7_member_X7_told
set_option maxRecDepth 20000 in
theorem ggX7_member_X7_isFit : GoodIn wsX7_member wsX7_isFit := goodIn_r _ [30, 1, 31, 32, 4, 33, 34, 35, 36, 37, 38, 39, 40, 41, 42, 43, 44, 45] (by decide +kernel) (by decide +kernel)
set_option maxRecDepth 20000 in
theorem gX7_member_X7_isFit : GoodIn wsX7_member (wsV RX7 67 RX7 yX7_isFit wsX7_isFit) := goodIn_app (goodIn_of _ (by decide +kernel)) ggX7_member_X7_isFit
theorem dX7_member_0 : decode cX7_member 0 = .ok (.iload_n 1, 1) := by decide +kernel
theorem dX7_member_1 : decode cX7_member 1 = .ok (.invokestatic 48, 3) := by decide +kernel
theorem dX7_member_4 : decode cX7_member 4 = .ok (.ifCond .ne 5, 3) := by decide +kernel
theorem dX7_member_7 : decode cX7_member 7 = .ok (.iconst (-1), 1) := by decide +kernel
theorem dX7_member_8 : decode cX7_member 8 = .ok (.ireturn, 1) := by decide +kernel
theorem dX7_member_9 : decode cX7_member 9 = .ok (.iload_n 2, 1) := by decide +kernel
theorem dX7_member_10 : decode cX7_member 10 = .ok (.iconst 3, 1) := by decide +kernel
theorem dX7_member_11 : decode cX7_member 11 = .ok (.bipush 7, 2) := by decide +kernel
theorem dX7_member_13 : decode cX7_member 13 = .ok (.invokestatic 36, 3) := by decide +kernel
theorem dX7_member_16 : decode cX7_member 16 = .ok (.ifCond .eq 12, 3) := by decide +kernel
theorem dX7_member_19 : decode cX7_member 19 = .ok (.aload_n 0, 1) := by decide +kernel
theorem dX7_member_20 : decode cX7_member 20 = .ok (.iload_n 1, 1) := by decide +kernel
theorem dX7_member_21 : decode cX7_member 21 = .ok (.iload_n 2, 1) := by decide +kernel
theorem dX7_member_22 : decode cX7_member 22 = .ok (.iconst 3, 1) := by decide +kernel
theorem dX7_member_23 : decode cX7_member 23 = .ok (.isub, 1) := by decide +kernel
theorem dX7_member_24 : decode cX7_member 24 = .ok (.invokevirtual 51, 3) := by decide +kernel
theorem dX7_member_27 : decode cX7_member 27 = .ok (.ireturn, 1) := by decide +kernel
theorem dX7_member_28 : decode cX7_member 28 = .ok (.iload_n 2, 1) := by decide +kernel
theorem dX7_member_29 : decode cX7_member 29 = .ok (.bipush 10, 2) := by decide +kernel
theorem dX7_member_31 : decode cX7_member 31 = .ok (.bipush 14, 2) := by decide +kernel
theorem dX7_member_33 : decode cX7_member 33 = .ok (.invokestatic 36, 3) := by decide +kernel
theorem dX7_member_36 : decode cX7_member 36 = .ok (.ifCond .eq 19, 3) := by decide +kernel
theorem dX7_member_39 : decode cX7_member 39 = .ok (.aload_n 0, 1) := by decide +kernel
theorem dX7_member_40 : decode cX7_member 40 = .ok (.getfield 7, 3) := by decide +kernel
theorem dX7_member_43 : decode cX7_member 43 = .ok (.iconst 0, 1) := by decide +kernel
theorem dX7_member_44 : decode cX7_member 44 = .ok (.iconst 5, 1) := by decide +kernel
theorem dX7_member_45 : decode cX7_member 45 = .ok (.iload_n 1, 1) := by decide +kernel
theorem dX7_member_46 : decode cX7_member 46 = .ok (.imul, 1) := by decide +kernel
theorem dX7_member_47 : decode cX7_member 47 = .ok (.iadd, 1) := by decide +kernel
theorem dX7_member_48 : decode cX7_member 48 = .ok (.iload_n 2, 1) := by decide +kernel
theorem dX7_member_49 : decode cX7_member 49 = .ok (.iadd, 1) := by decide +kernel
theorem dX7_member_50 : decode cX7_member 50 = .ok (.bipush 10, 2) := by decide +kernel
theorem dX7_member_52 : decode cX7_member 52 = .ok (.isub, 1) := by decide +kernel
theorem dX7_member_53 : decode cX7_member 53 = .ok (.iaload, 1) := by decide +kernel
theorem dX7_member_54 : decode cX7_member 54 = .ok (.ireturn, 1) := by decide +kernel
theorem dX7_member_55 : decode cX7_member 55 = .ok (.iload_n 2, 1) := by decide +kernel
theorem dX7_member_56 : decode cX7_member 56 = .ok (.iconst 0, 1) := by decide +kernel
theorem dX7_member_57 : decode cX7_member 57 = .ok (.iconst 2, 1) := by decide +kernel
theorem dX7_member_58 : decode cX7_member 58 = .ok (.invokestatic 36, 3) := by decide +kernel
theorem dX7_member_61 : decode cX7_member 61 = .ok (.ifCond .ne 6, 3) := by decide +kernel
theorem dX7_member_64 : decode cX7_member 64 = .ok (.bipush (-2), 2) := by decide +kernel
theorem dX7_member_66 : decode cX7_member 66 = .ok (.ireturn, 1) := by decide +kernel
theorem dX7_member_67 : decode cX7_member 67 = .ok (.aload_n 0, 1) := by decide +kernel
theorem dX7_member_68 : decode cX7_member 68 = .ok (.iload_n 1, 1) := by decide +kernel
theorem dX7_member_69 : decode cX7_member 69 = .ok (.invokevirtual 61, 3) := by decide +kernel
theorem dX7_member_72 : decode cX7_member 72 = .ok (.ifCond .ne 6, 3) := by decide +kernel
theorem dX7_member_75 : decode cX7_member 75 = .ok (.bipush (-6), 2) := by decide +kernel
theorem dX7_member_77 : decode cX7_member 77 = .ok (.ireturn, 1) := by decide +kernel
theorem dX7_member_78 : decode cX7_member 78 = .ok (.iload_n 2, 1) := by decide +kernel
theorem dX7_member_79 : decode cX7_member 79 = .ok (.ifCond .ne 15, 3) := by decide +kernel
theorem dX7_member_82 : decode cX7_member 82 = .ok (.aload_n 0, 1) := by decide +kernel
theorem dX7_member_83 : decode cX7_member 83 = .ok (.getfield 7, 3) := by decide +kernel
theorem dX7_member_86 : decode cX7_member 86 = .ok (.bipush 40, 2) := by decide +kernel
theorem dX7_member_88 : decode cX7_member 88 = .ok (.iload_n 1, 1) := by decide +kernel
theorem dX7_member_89 : decode cX7_member 89 = .ok (.iadd, 1) := by decide +kernel
theorem dX7_member_90 : decode cX7_member 90 = .ok (.iaload, 1) := by decide +kernel
theorem dX7_member_91 : decode cX7_member 91 = .ok (.goto 34, 3) := by decide +kernel
theorem dX7_member_94 : decode cX7_member 94 = .ok (.iload_n 2, 1) := by decide +kernel
theorem dX7_member_95 : decode cX7_member 95 = .ok (.iconst 1, 1) := by decide +kernel
theorem dX7_member_96 : decode cX7_member 96 = .ok (.if_icmp .ne 11, 3) := by decide +kernel
theorem dX7_member_99 : decode cX7_member 99 = .ok (.aload_n 0, 1) := by decide +kernel
theorem dX7_member_100 : decode cX7_member 100 = .ok (.iload_n 1, 1) := by decide +kernel
theorem dX7_member_101 : decode cX7_member 101 = .ok (.invokevirtual 64, 3) := by decide +kernel
theorem dX7_member_104 : decode cX7_member 104 = .ok (.goto 21, 3) := by decide +kernel
theorem dX7_member_107 : decode cX7_member 107 = .ok (.aload_n 0, 1) := by decide +kernel
theorem dX7_member_108 : decode cX7_member 108 = .ok (.aload_n 0, 1) := by decide +kernel
theorem dX7_member_109 : decode cX7_member 109 = .ok (.iload_n 1, 1) := by decide +kernel
theorem dX7_member_110 : decode cX7_member 110 = .ok (.invokevirtual 64, 3) := by decide +kernel
theorem dX7_member_113 : decode cX7_member 113 = .ok (.iload_n 1, 1) := by decide +kernel
theorem dX7_member_114 : decode cX7_member 114 = .ok (.invokevirtual 67, 3) := by decide +kernel
theorem dX7_member_117 : decode cX7_member 117 = .ok (.ifCond .eq 7, 3) := by decide +kernel
theorem dX7_member_120 : decode cX7_member 120 = .ok (.iconst 1, 1) := by decide +kernel
theorem dX7_member_121 : decode cX7_member 121 = .ok (.goto 4, 3) := by decide +kernel
theorem dX7_member_124 : decode cX7_member 124 = .ok (.iconst 0, 1) := by decide +kernel
theorem dX7_member_125 : decode cX7_member 125 = .ok (.ireturn, 1) := by decide +kernel
set_option maxRecDepth 20000 in
theorem ggX7_say_X7_in : GoodIn wsX7_say wsX7_in := goodIn_r _ [6] (by decide +kernel) (by decide +kernel)
set_option maxRecDepth 20000 in
theorem gX7_say_X7_in : GoodIn wsX7_say (va_wsS RX7 36 yX7_in wsX7_in) := goodIn_app (goodIn_of _ (by decide +kernel)) ggX7_say_X7_in
theorem dX7_say_0 : decode cX7_say 0 = .ok (.iload_n 1, 1) := by decide +kernel
theorem dX7_say_1 : decode cX7_say 1 = .ok (.bipush 33, 2) := by decide +kernel
theorem dX7_say_3 : decode cX7_say 3 = .ok (.bipush 126, 2) := by decide +kernel
theorem dX7_say_5 : decode cX7_say 5 = .ok (.invokestatic 36, 3) := by decide +kernel
theorem dX7_say_8 : decode cX7_say 8 = .ok (.ifCond .ne 6, 3) := by decide +kernel
theorem dX7_say_11 : decode cX7_say 11 = .ok (.bipush (-2), 2) := by decide +kernel
theorem dX7_say_13 : decode cX7_say 13 = .ok (.ireturn, 1) := by decide +kernel
theorem dX7_say_14 : decode cX7_say 14 = .ok (.aload_n 0, 1) := by decide +kernel
theorem dX7_say_15 : decode cX7_say 15 = .ok (.getfield 71, 3) := by decide +kernel
theorem dX7_say_18 : decode cX7_say 18 = .ok (.bipush 10, 2) := by decide +kernel
theorem dX7_say_20 : decode cX7_say 20 = .ok (.if_icmp .ne 6, 3) := by decide +kernel
theorem dX7_say_23 : decode cX7_say 23 = .ok (.bipush (-4), 2) := by decide +kernel
theorem dX7_say_25 : decode cX7_say 25 = .ok (.ireturn, 1) := by decide +kernel
theorem dX7_say_26 : decode cX7_say 26 = .ok (.aload_n 0, 1) := by decide +kernel
theorem dX7_say_27 : decode cX7_say 27 = .ok (.getfield 13, 3) := by decide +kernel
theorem dX7_say_30 : decode cX7_say 30 = .ok (.aload_n 0, 1) := by decide +kernel
theorem dX7_say_31 : decode cX7_say 31 = .ok (.getfield 71, 3) := by decide +kernel
theorem dX7_say_34 : decode cX7_say 34 = .ok (.iload_n 1, 1) := by decide +kernel
theorem dX7_say_35 : decode cX7_say 35 = .ok (.iastore, 1) := by decide +kernel
theorem dX7_say_36 : decode cX7_say 36 = .ok (.aload_n 0, 1) := by decide +kernel
theorem dX7_say_37 : decode cX7_say 37 = .ok (.dup, 1) := by decide +kernel
theorem dX7_say_38 : decode cX7_say 38 = .ok (.getfield 71, 3) := by decide +kernel
theorem dX7_say_41 : decode cX7_say 41 = .ok (.iconst 1, 1) := by decide +kernel
theorem dX7_say_42 : decode cX7_say 42 = .ok (.iadd, 1) := by decide +kernel
theorem dX7_say_43 : decode cX7_say 43 = .ok (.putfield 71, 3) := by decide +kernel
theorem dX7_say_46 : decode cX7_say 46 = .ok (.aload_n 0, 1) := by decide +kernel
theorem dX7_say_47 : decode cX7_say 47 = .ok (.getfield 71, 3) := by decide +kernel
theorem dX7_say_50 : decode cX7_say 50 = .ok (.ireturn, 1) := by decide +kernel
theorem dX7_wipe_0 : decode cX7_wipe 0 = .ok (.aload_n 0, 1) := by decide +kernel
theorem dX7_wipe_1 : decode cX7_wipe 1 = .ok (.getfield 71, 3) := by decide +kernel
theorem dX7_wipe_4 : decode cX7_wipe 4 = .ok (.istore_n 1, 1) := by decide +kernel
theorem dX7_wipe_5 : decode cX7_wipe 5 = .ok (.aload_n 0, 1) := by decide +kernel
theorem dX7_wipe_6 : decode cX7_wipe 6 = .ok (.iconst 0, 1) := by decide +kernel
theorem dX7_wipe_7 : decode cX7_wipe 7 = .ok (.putfield 71, 3) := by decide +kernel
theorem dX7_wipe_10 : decode cX7_wipe 10 = .ok (.iload_n 1, 1) := by decide +kernel
theorem dX7_wipe_11 : decode cX7_wipe 11 = .ok (.ireturn, 1) := by decide +kernel
theorem dX7_figure_0 : decode cX7_figure 0 = .ok (.aload_n 0, 1) := by decide +kernel
theorem dX7_figure_1 : decode cX7_figure 1 = .ok (.getfield 13, 3) := by decide +kernel
theorem dX7_figure_4 : decode cX7_figure 4 = .ok (.iload_n 1, 1) := by decide +kernel
theorem dX7_figure_5 : decode cX7_figure 5 = .ok (.iaload, 1) := by decide +kernel
theorem dX7_figure_6 : decode cX7_figure 6 = .ok (.bipush 48, 2) := by decide +kernel
theorem dX7_figure_8 : decode cX7_figure 8 = .ok (.isub, 1) := by decide +kernel
theorem dX7_figure_9 : decode cX7_figure 9 = .ok (.ireturn, 1) := by decide +kernel
theorem dX7_leastOf_0 : decode cX7_leastOf 0 = .ok (.iload_n 0, 1) := by decide +kernel
theorem dX7_leastOf_1 : decode cX7_leastOf 1 = .ok (.tableswitch 109 98 119 #[107, 109, 105, 109, 103, 109, 109, 109, 109, 109, 109, 109, 109, 105, 109, 109, 109, 105, 107, 109, 109, 105], 103) := by decide +kernel
theorem dX7_leastOf_104 : decode cX7_leastOf 104 = .ok (.iconst 1, 1) := by decide +kernel
theorem dX7_leastOf_105 : decode cX7_leastOf 105 = .ok (.ireturn, 1) := by decide +kernel
theorem dX7_leastOf_106 : decode cX7_leastOf 106 = .ok (.iconst 2, 1) := by decide +kernel
theorem dX7_leastOf_107 : decode cX7_leastOf 107 = .ok (.ireturn, 1) := by decide +kernel
theorem dX7_leastOf_108 : decode cX7_leastOf 108 = .ok (.iconst 3, 1) := by decide +kernel
theorem dX7_leastOf_109 : decode cX7_leastOf 109 = .ok (.ireturn, 1) := by decide +kernel
theorem dX7_leastOf_110 : decode cX7_leastOf 110 = .ok (.iconst 0, 1) := by decide +kernel
theorem dX7_leastOf_111 : decode cX7_leastOf 111 = .ok (.ireturn, 1) := by decide +kernel
set_option maxRecDepth 20000 in
theorem ggX7_canStand_X7_figure : GoodIn wsX7_canStand wsX7_figure := goodIn_r _ [6, 1, 13, 14, 15, 16, 17, 18, 19, 20, 21] (by decide +kernel) (by decide +kernel)
set_option maxRecDepth 20000 in
theorem gX7_canStand_X7_figure : GoodIn wsX7_canStand (wsV RX7 75 RX7 yX7_figure wsX7_figure) := goodIn_app (goodIn_of _ (by decide +kernel)) ggX7_canStand_X7_figure
set_option maxRecDepth 20000 in
theorem ggX7_canStand_X7_in : GoodIn wsX7_canStand wsX7_in := goodIn_r _ [9] (by decide +kernel) (by decide +kernel)
set_option maxRecDepth 20000 in
theorem gX7_canStand_X7_in : GoodIn wsX7_canStand (va_wsS RX7 36 yX7_in wsX7_in) := goodIn_app (goodIn_of _ (by decide +kernel)) ggX7_canStand_X7_in
set_option maxRecDepth 20000 in
theorem ggX7_canStand_X7_isMember : GoodIn wsX7_canStand wsX7_isMember := goodIn_r _ [12, 7, 8, 5, 9] (by decide +kernel) (by decide +kernel)
set_option maxRecDepth 20000 in
theorem gX7_canStand_X7_isMember : GoodIn wsX7_canStand (va_wsS RX7 48 yX7_isMember wsX7_isMember) := goodIn_app (goodIn_of _ (by decide +kernel)) ggX7_canStand_X7_isMember
theorem dX7_canStand_0 : decode cX7_canStand 0 = .ok (.aload_n 0, 1) := by decide +kernel
theorem dX7_canStand_1 : decode cX7_canStand 1 = .ok (.iload_n 1, 1) := by decide +kernel
theorem dX7_canStand_2 : decode cX7_canStand 2 = .ok (.invokevirtual 75, 3) := by decide +kernel
theorem dX7_canStand_5 : decode cX7_canStand 5 = .ok (.istore_n 2, 1) := by decide +kernel
theorem dX7_canStand_6 : decode cX7_canStand 6 = .ok (.aload_n 0, 1) := by decide +kernel
theorem dX7_canStand_7 : decode cX7_canStand 7 = .ok (.getfield 13, 3) := by decide +kernel
theorem dX7_canStand_10 : decode cX7_canStand 10 = .ok (.iconst 0, 1) := by decide +kernel
theorem dX7_canStand_11 : decode cX7_canStand 11 = .ok (.iaload, 1) := by decide +kernel
theorem dX7_canStand_12 : decode cX7_canStand 12 = .ok (.lookupswitch 199 #[(98, 127), (100, 60), (111, 98), (115, 80), (116, 156), (119, 80)], 60) := by decide +kernel
theorem dX7_canStand_72 : decode cX7_canStand 72 = .ok (.iload_n 1, 1) := by decide +kernel
theorem dX7_canStand_73 : decode cX7_canStand 73 = .ok (.iconst 1, 1) := by decide +kernel
theorem dX7_canStand_74 : decode cX7_canStand 74 = .ok (.if_icmp .ne 16, 3) := by decide +kernel
theorem dX7_canStand_77 : decode cX7_canStand 77 = .ok (.iload_n 2, 1) := by decide +kernel
theorem dX7_canStand_78 : decode cX7_canStand 78 = .ok (.iconst 1, 1) := by decide +kernel
theorem dX7_canStand_79 : decode cX7_canStand 79 = .ok (.iconst 5, 1) := by decide +kernel
theorem dX7_canStand_80 : decode cX7_canStand 80 = .ok (.invokestatic 36, 3) := by decide +kernel
theorem dX7_canStand_83 : decode cX7_canStand 83 = .ok (.ifCond .eq 7, 3) := by decide +kernel
theorem dX7_canStand_86 : decode cX7_canStand 86 = .ok (.iconst 1, 1) := by decide +kernel
theorem dX7_canStand_87 : decode cX7_canStand 87 = .ok (.goto 4, 3) := by decide +kernel
theorem dX7_canStand_90 : decode cX7_canStand 90 = .ok (.iconst 0, 1) := by decide +kernel
theorem dX7_canStand_91 : decode cX7_canStand 91 = .ok (.ireturn, 1) := by decide +kernel
theorem dX7_canStand_92 : decode cX7_canStand 92 = .ok (.iload_n 1, 1) := by decide +kernel
theorem dX7_canStand_93 : decode cX7_canStand 93 = .ok (.iconst 1, 1) := by decide +kernel
theorem dX7_canStand_94 : decode cX7_canStand 94 = .ok (.if_icmp .ne 14, 3) := by decide +kernel
theorem dX7_canStand_97 : decode cX7_canStand 97 = .ok (.iload_n 2, 1) := by decide +kernel
theorem dX7_canStand_98 : decode cX7_canStand 98 = .ok (.invokestatic 48, 3) := by decide +kernel
theorem dX7_canStand_101 : decode cX7_canStand 101 = .ok (.ifCond .eq 7, 3) := by decide +kernel
theorem dX7_canStand_104 : decode cX7_canStand 104 = .ok (.iconst 1, 1) := by decide +kernel
theorem dX7_canStand_105 : decode cX7_canStand 105 = .ok (.goto 4, 3) := by decide +kernel
theorem dX7_canStand_108 : decode cX7_canStand 108 = .ok (.iconst 0, 1) := by decide +kernel
theorem dX7_canStand_109 : decode cX7_canStand 109 = .ok (.ireturn, 1) := by decide +kernel
theorem dX7_canStand_110 : decode cX7_canStand 110 = .ok (.iload_n 2, 1) := by decide +kernel
theorem dX7_canStand_111 : decode cX7_canStand 111 = .ok (.invokestatic 48, 3) := by decide +kernel
theorem dX7_canStand_114 : decode cX7_canStand 114 = .ok (.ifCond .eq 23, 3) := by decide +kernel
theorem dX7_canStand_117 : decode cX7_canStand 117 = .ok (.iload_n 1, 1) := by decide +kernel
theorem dX7_canStand_118 : decode cX7_canStand 118 = .ok (.iconst 1, 1) := by decide +kernel
theorem dX7_canStand_119 : decode cX7_canStand 119 = .ok (.if_icmp .eq 14, 3) := by decide +kernel
theorem dX7_canStand_122 : decode cX7_canStand 122 = .ok (.iload_n 2, 1) := by decide +kernel
theorem dX7_canStand_123 : decode cX7_canStand 123 = .ok (.aload_n 0, 1) := by decide +kernel
theorem dX7_canStand_124 : decode cX7_canStand 124 = .ok (.iload_n 1, 1) := by decide +kernel
theorem dX7_canStand_125 : decode cX7_canStand 125 = .ok (.iconst 1, 1) := by decide +kernel
theorem dX7_canStand_126 : decode cX7_canStand 126 = .ok (.isub, 1) := by decide +kernel
theorem dX7_canStand_127 : decode cX7_canStand 127 = .ok (.invokevirtual 75, 3) := by decide +kernel
theorem dX7_canStand_130 : decode cX7_canStand 130 = .ok (.if_icmp .le 7, 3) := by decide +kernel
theorem dX7_canStand_133 : decode cX7_canStand 133 = .ok (.iconst 1, 1) := by decide +kernel
theorem dX7_canStand_134 : decode cX7_canStand 134 = .ok (.goto 4, 3) := by decide +kernel
theorem dX7_canStand_137 : decode cX7_canStand 137 = .ok (.iconst 0, 1) := by decide +kernel
theorem dX7_canStand_138 : decode cX7_canStand 138 = .ok (.ireturn, 1) := by decide +kernel
theorem dX7_canStand_139 : decode cX7_canStand 139 = .ok (.iload_n 2, 1) := by decide +kernel
theorem dX7_canStand_140 : decode cX7_canStand 140 = .ok (.invokestatic 48, 3) := by decide +kernel
theorem dX7_canStand_143 : decode cX7_canStand 143 = .ok (.ifCond .eq 23, 3) := by decide +kernel
theorem dX7_canStand_146 : decode cX7_canStand 146 = .ok (.iload_n 1, 1) := by decide +kernel
theorem dX7_canStand_147 : decode cX7_canStand 147 = .ok (.iconst 3, 1) := by decide +kernel
theorem dX7_canStand_148 : decode cX7_canStand 148 = .ok (.if_icmp .lt 14, 3) := by decide +kernel
theorem dX7_canStand_151 : decode cX7_canStand 151 = .ok (.iload_n 2, 1) := by decide +kernel
theorem dX7_canStand_152 : decode cX7_canStand 152 = .ok (.aload_n 0, 1) := by decide +kernel
theorem dX7_canStand_153 : decode cX7_canStand 153 = .ok (.iload_n 1, 1) := by decide +kernel
theorem dX7_canStand_154 : decode cX7_canStand 154 = .ok (.iconst 1, 1) := by decide +kernel
theorem dX7_canStand_155 : decode cX7_canStand 155 = .ok (.isub, 1) := by decide +kernel
theorem dX7_canStand_156 : decode cX7_canStand 156 = .ok (.invokevirtual 75, 3) := by decide +kernel
theorem dX7_canStand_159 : decode cX7_canStand 159 = .ok (.if_icmp .le 7, 3) := by decide +kernel
theorem dX7_canStand_162 : decode cX7_canStand 162 = .ok (.iconst 1, 1) := by decide +kernel
theorem dX7_canStand_163 : decode cX7_canStand 163 = .ok (.goto 4, 3) := by decide +kernel
theorem dX7_canStand_166 : decode cX7_canStand 166 = .ok (.iconst 0, 1) := by decide +kernel
theorem dX7_canStand_167 : decode cX7_canStand 167 = .ok (.ireturn, 1) := by decide +kernel
theorem dX7_canStand_168 : decode cX7_canStand 168 = .ok (.iload_n 1, 1) := by decide +kernel
theorem dX7_canStand_169 : decode cX7_canStand 169 = .ok (.iconst 1, 1) := by decide +kernel
theorem dX7_canStand_170 : decode cX7_canStand 170 = .ok (.if_icmp .ne 12, 3) := by decide +kernel
theorem dX7_canStand_173 : decode cX7_canStand 173 = .ok (.iload_n 2, 1) := by decide +kernel
theorem dX7_canStand_174 : decode cX7_canStand 174 = .ok (.iconst 1, 1) := by decide +kernel
theorem dX7_canStand_175 : decode cX7_canStand 175 = .ok (.iconst 5, 1) := by decide +kernel
theorem dX7_canStand_176 : decode cX7_canStand 176 = .ok (.invokestatic 36, 3) := by decide +kernel
theorem dX7_canStand_179 : decode cX7_canStand 179 = .ok (.goto 31, 3) := by decide +kernel
theorem dX7_canStand_182 : decode cX7_canStand 182 = .ok (.iload_n 2, 1) := by decide +kernel
theorem dX7_canStand_183 : decode cX7_canStand 183 = .ok (.invokestatic 48, 3) := by decide +kernel
theorem dX7_canStand_186 : decode cX7_canStand 186 = .ok (.ifCond .eq 23, 3) := by decide +kernel
theorem dX7_canStand_189 : decode cX7_canStand 189 = .ok (.iload_n 1, 1) := by decide +kernel
theorem dX7_canStand_190 : decode cX7_canStand 190 = .ok (.iconst 2, 1) := by decide +kernel
theorem dX7_canStand_191 : decode cX7_canStand 191 = .ok (.if_icmp .eq 14, 3) := by decide +kernel
theorem dX7_canStand_194 : decode cX7_canStand 194 = .ok (.iload_n 2, 1) := by decide +kernel
theorem dX7_canStand_195 : decode cX7_canStand 195 = .ok (.aload_n 0, 1) := by decide +kernel
theorem dX7_canStand_196 : decode cX7_canStand 196 = .ok (.iload_n 1, 1) := by decide +kernel
theorem dX7_canStand_197 : decode cX7_canStand 197 = .ok (.iconst 1, 1) := by decide +kernel
theorem dX7_canStand_198 : decode cX7_canStand 198 = .ok (.isub, 1) := by decide +kernel
theorem dX7_canStand_199 : decode cX7_canStand 199 = .ok (.invokevirtual 75, 3) := by decide +kernel
theorem dX7_canStand_202 : decode cX7_canStand 202 = .ok (.if_icmp .le 7, 3) := by decide +kernel
theorem dX7_canStand_205 : decode cX7_canStand 205 = .ok (.iconst 1, 1) := by decide +kernel
theorem dX7_canStand_206 : decode cX7_canStand 206 = .ok (.goto 4, 3) := by decide +kernel
theorem dX7_canStand_209 : decode cX7_canStand 209 = .ok (.iconst 0, 1) := by decide +kernel
theorem dX7_canStand_210 : decode cX7_canStand 210 = .ok (.ireturn, 1) := by decide +kernel
theorem dX7_canStand_211 : decode cX7_canStand 211 = .ok (.iconst 0, 1) := by decide +kernel
theorem dX7_canStand_212 : decode cX7_canStand 212 = .ok (.ireturn, 1) := by decide +kernel
set_option maxRecDepth 20000 in
theorem ggX7_faultNow_X7_leastOf : GoodIn wsX7_faultNow wsX7_leastOf := goodIn_r _ [6] (by decide +kernel) (by decide +kernel)
set_option maxRecDepth 20000 in
theorem gX7_faultNow_X7_leastOf : GoodIn wsX7_faultNow (va_wsS RX7 78 yX7_leastOf wsX7_leastOf) := goodIn_app (goodIn_of _ (by decide +kernel)) ggX7_faultNow_X7_leastOf
set_option maxRecDepth 20000 in
theorem ggX7_faultNow_X7_canStand : GoodIn wsX7_faultNow wsX7_canStand := goodIn_r _ [10, 2, 11, 12, 13, 5, 14, 15, 16, 17, 18, 19, 20, 21, 22, 23, 24, 25, 26, 27, 28, 29] (by decide +kernel) (by decide +kernel)
set_option maxRecDepth 20000 in
theorem gX7_faultNow_X7_canStand : GoodIn wsX7_faultNow (wsV RX7 81 RX7 yX7_canStand wsX7_canStand) := goodIn_app (goodIn_of _ (by decide +kernel)) ggX7_faultNow_X7_canStand
theorem dX7_faultNow_0 : decode cX7_faultNow 0 = .ok (.aload_n 0, 1) := by decide +kernel
theorem dX7_faultNow_1 : decode cX7_faultNow 1 = .ok (.getfield 71, 3) := by decide +kernel
theorem dX7_faultNow_4 : decode cX7_faultNow 4 = .ok (.ifCond .eq 15, 3) := by decide +kernel
theorem dX7_faultNow_7 : decode cX7_faultNow 7 = .ok (.aload_n 0, 1) := by decide +kernel
theorem dX7_faultNow_8 : decode cX7_faultNow 8 = .ok (.getfield 13, 3) := by decide +kernel
theorem dX7_faultNow_11 : decode cX7_faultNow 11 = .ok (.iconst 0, 1) := by decide +kernel
theorem dX7_faultNow_12 : decode cX7_faultNow 12 = .ok (.iaload, 1) := by decide +kernel
theorem dX7_faultNow_13 : decode cX7_faultNow 13 = .ok (.invokestatic 78, 3) := by decide +kernel
theorem dX7_faultNow_16 : decode cX7_faultNow 16 = .ok (.ifCond .ne 5, 3) := by decide +kernel
theorem dX7_faultNow_19 : decode cX7_faultNow 19 = .ok (.iconst 0, 1) := by decide +kernel
theorem dX7_faultNow_20 : decode cX7_faultNow 20 = .ok (.ireturn, 1) := by decide +kernel
theorem dX7_faultNow_21 : decode cX7_faultNow 21 = .ok (.iconst 1, 1) := by decide +kernel
theorem dX7_faultNow_22 : decode cX7_faultNow 22 = .ok (.istore_n 1, 1) := by decide +kernel
theorem dX7_faultNow_23 : decode cX7_faultNow 23 = .ok (.iload_n 1, 1) := by decide +kernel
theorem dX7_faultNow_24 : decode cX7_faultNow 24 = .ok (.aload_n 0, 1) := by decide +kernel
theorem dX7_faultNow_25 : decode cX7_faultNow 25 = .ok (.getfield 71, 3) := by decide +kernel
theorem dX7_faultNow_28 : decode cX7_faultNow 28 = .ok (.if_icmp .ge 19, 3) := by decide +kernel
theorem dX7_faultNow_31 : decode cX7_faultNow 31 = .ok (.aload_n 0, 1) := by decide +kernel
theorem dX7_faultNow_32 : decode cX7_faultNow 32 = .ok (.iload_n 1, 1) := by decide +kernel
theorem dX7_faultNow_33 : decode cX7_faultNow 33 = .ok (.invokevirtual 81, 3) := by decide +kernel
theorem dX7_faultNow_36 : decode cX7_faultNow 36 = .ok (.ifCond .ne 5, 3) := by decide +kernel
theorem dX7_faultNow_39 : decode cX7_faultNow 39 = .ok (.iload_n 1, 1) := by decide +kernel
theorem dX7_faultNow_40 : decode cX7_faultNow 40 = .ok (.ireturn, 1) := by decide +kernel
theorem dX7_faultNow_41 : decode cX7_faultNow 41 = .ok (.iinc 1 1, 3) := by decide +kernel
theorem dX7_faultNow_44 : decode cX7_faultNow 44 = .ok (.goto (-21), 3) := by decide +kernel
theorem dX7_faultNow_47 : decode cX7_faultNow 47 = .ok (.aload_n 0, 1) := by decide +kernel
theorem dX7_faultNow_48 : decode cX7_faultNow 48 = .ok (.getfield 71, 3) := by decide +kernel
theorem dX7_faultNow_51 : decode cX7_faultNow 51 = .ok (.aload_n 0, 1) := by decide +kernel
theorem dX7_faultNow_52 : decode cX7_faultNow 52 = .ok (.getfield 13, 3) := by decide +kernel
theorem dX7_faultNow_55 : decode cX7_faultNow 55 = .ok (.iconst 0, 1) := by decide +kernel
theorem dX7_faultNow_56 : decode cX7_faultNow 56 = .ok (.iaload, 1) := by decide +kernel
theorem dX7_faultNow_57 : decode cX7_faultNow 57 = .ok (.invokestatic 78, 3) := by decide +kernel
theorem dX7_faultNow_60 : decode cX7_faultNow 60 = .ok (.if_icmp .ge 10, 3) := by decide +kernel
theorem dX7_faultNow_63 : decode cX7_faultNow 63 = .ok (.aload_n 0, 1) := by decide +kernel
theorem dX7_faultNow_64 : decode cX7_faultNow 64 = .ok (.getfield 71, 3) := by decide +kernel
theorem dX7_faultNow_67 : decode cX7_faultNow 67 = .ok (.goto 5, 3) := by decide +kernel
theorem dX7_faultNow_70 : decode cX7_faultNow 70 = .ok (.bipush (-6), 2) := by decide +kernel
theorem dX7_faultNow_72 : decode cX7_faultNow 72 = .ok (.ireturn, 1) := by decide +kernel
set_option maxRecDepth 20000 in
theorem ggX7_fault_X7_faultNow : GoodIn wsX7_fault wsX7_faultNow := goodIn_r _ [5, 6, 7, 8, 9, 4, 10, 11, 12, 13, 14, 15, 16, 17, 18, 19, 20, 21, 22, 23, 24, 25, 26, 27, 28, 29, 30, 31, 32, 33] (by decide +kernel) (by decide +kernel)
set_option maxRecDepth 20000 in
theorem gX7_fault_X7_faultNow : GoodIn wsX7_fault (wsV RX7 84 RX7 yX7_faultNow wsX7_faultNow) := goodIn_app (goodIn_of _ (by decide +kernel)) ggX7_fault_X7_faultNow
theorem dX7_fault_0 : decode cX7_fault 0 = .ok (.aload_n 0, 1) := by decide +kernel
theorem dX7_fault_1 : decode cX7_fault 1 = .ok (.invokevirtual 84, 3) := by decide +kernel
theorem dX7_fault_4 : decode cX7_fault 4 = .ok (.ireturn, 1) := by decide +kernel
set_option maxRecDepth 20000 in
theorem ggX7_inverse_X7_mod : GoodIn wsX7_inverse wsX7_mod := goodIn_r _ [4] (by decide +kernel) (by decide +kernel)
set_option maxRecDepth 20000 in
theorem gX7_inverse_X7_mod : GoodIn wsX7_inverse (va_wsS RX7 54 yX7_mod wsX7_mod) := goodIn_app (goodIn_of _ (by decide +kernel)) ggX7_inverse_X7_mod
set_option maxRecDepth 20000 in
theorem ggX7_inverse_X7_power : GoodIn wsX7_inverse wsX7_power := goodIn_r _ [7] (by decide +kernel) (by decide +kernel)
set_option maxRecDepth 20000 in
theorem gX7_inverse_X7_power : GoodIn wsX7_inverse (va_wsS RX7 40 yX7_power wsX7_power) := goodIn_app (goodIn_of _ (by decide +kernel)) ggX7_inverse_X7_power
theorem dX7_inverse_0 : decode cX7_inverse 0 = .ok (.iload_n 0, 1) := by decide +kernel
theorem dX7_inverse_1 : decode cX7_inverse 1 = .ok (.invokestatic 54, 3) := by decide +kernel
theorem dX7_inverse_4 : decode cX7_inverse 4 = .ok (.bipush 21, 2) := by decide +kernel
theorem dX7_inverse_6 : decode cX7_inverse 6 = .ok (.bipush 23, 2) := by decide +kernel
theorem dX7_inverse_8 : decode cX7_inverse 8 = .ok (.invokestatic 40, 3) := by decide +kernel
theorem dX7_inverse_11 : decode cX7_inverse 11 = .ok (.ireturn, 1) := by decide +kernel
set_option maxRecDepth 20000 in
theorem ggX7_weight_X7_has : GoodIn wsX7_weight wsX7_has := goodIn_r _ [4] (by decide +kernel) (by decide +kernel)
set_option maxRecDepth 20000 in
theorem gX7_weight_X7_has : GoodIn wsX7_weight (va_wsS RX7 88 yX7_has wsX7_has) := goodIn_app (goodIn_of _ (by decide +kernel)) ggX7_weight_X7_has
set_option maxRecDepth 20000 in
theorem ggX7_weight_X7_mod : GoodIn wsX7_weight wsX7_mod := goodIn_r _ [7] (by decide +kernel) (by decide +kernel)
set_option maxRecDepth 20000 in
theorem gX7_weight_X7_mod : GoodIn wsX7_weight (va_wsS RX7 54 yX7_mod wsX7_mod) := goodIn_app (goodIn_of _ (by decide +kernel)) ggX7_weight_X7_mod
set_option maxRecDepth 20000 in
theorem ggX7_weight_X7_inverse : GoodIn wsX7_weight wsX7_inverse := goodIn_r _ [10, 5, 6, 3, 7, 11, 12, 13] (by decide +kernel) (by decide +kernel)
set_option maxRecDepth 20000 in
theorem gX7_weight_X7_inverse : GoodIn wsX7_weight (va_wsS RX7 91 yX7_inverse wsX7_inverse) := goodIn_app (goodIn_of _ (by decide +kernel)) ggX7_weight_X7_inverse
theorem dX7_weight_0 : decode cX7_weight 0 = .ok (.iconst 1, 1) := by decide +kernel
theorem dX7_weight_1 : decode cX7_weight 1 = .ok (.istore_n 3, 1) := by decide +kernel
theorem dX7_weight_2 : decode cX7_weight 2 = .ok (.iconst 1, 1) := by decide +kernel
theorem dX7_weight_3 : decode cX7_weight 3 = .ok (.istore 4, 2) := by decide +kernel
theorem dX7_weight_5 : decode cX7_weight 5 = .ok (.iload 4, 2) := by decide +kernel
theorem dX7_weight_7 : decode cX7_weight 7 = .ok (.bipush 7, 2) := by decide +kernel
theorem dX7_weight_9 : decode cX7_weight 9 = .ok (.if_icmp .gt 45, 3) := by decide +kernel
theorem dX7_weight_12 : decode cX7_weight 12 = .ok (.iload_n 1, 1) := by decide +kernel
theorem dX7_weight_13 : decode cX7_weight 13 = .ok (.iload 4, 2) := by decide +kernel
theorem dX7_weight_15 : decode cX7_weight 15 = .ok (.invokestatic 88, 3) := by decide +kernel
theorem dX7_weight_18 : decode cX7_weight 18 = .ok (.ifCond .eq 30, 3) := by decide +kernel
theorem dX7_weight_21 : decode cX7_weight 21 = .ok (.iload 4, 2) := by decide +kernel
theorem dX7_weight_23 : decode cX7_weight 23 = .ok (.iload_n 0, 1) := by decide +kernel
theorem dX7_weight_24 : decode cX7_weight 24 = .ok (.if_icmp .eq 24, 3) := by decide +kernel
theorem dX7_weight_27 : decode cX7_weight 27 = .ok (.iload_n 3, 1) := by decide +kernel
theorem dX7_weight_28 : decode cX7_weight 28 = .ok (.iload_n 2, 1) := by decide +kernel
theorem dX7_weight_29 : decode cX7_weight 29 = .ok (.iload 4, 2) := by decide +kernel
theorem dX7_weight_31 : decode cX7_weight 31 = .ok (.isub, 1) := by decide +kernel
theorem dX7_weight_32 : decode cX7_weight 32 = .ok (.invokestatic 54, 3) := by decide +kernel
theorem dX7_weight_35 : decode cX7_weight 35 = .ok (.imul, 1) := by decide +kernel
theorem dX7_weight_36 : decode cX7_weight 36 = .ok (.iload_n 0, 1) := by decide +kernel
theorem dX7_weight_37 : decode cX7_weight 37 = .ok (.iload 4, 2) := by decide +kernel
theorem dX7_weight_39 : decode cX7_weight 39 = .ok (.isub, 1) := by decide +kernel
theorem dX7_weight_40 : decode cX7_weight 40 = .ok (.invokestatic 91, 3) := by decide +kernel
theorem dX7_weight_43 : decode cX7_weight 43 = .ok (.imul, 1) := by decide +kernel
theorem dX7_weight_44 : decode cX7_weight 44 = .ok (.invokestatic 54, 3) := by decide +kernel
theorem dX7_weight_47 : decode cX7_weight 47 = .ok (.istore_n 3, 1) := by decide +kernel
theorem dX7_weight_48 : decode cX7_weight 48 = .ok (.iinc 4 1, 3) := by decide +kernel
theorem dX7_weight_51 : decode cX7_weight 51 = .ok (.goto (-46), 3) := by decide +kernel
theorem dX7_weight_54 : decode cX7_weight 54 = .ok (.iload_n 3, 1) := by decide +kernel
theorem dX7_weight_55 : decode cX7_weight 55 = .ok (.ireturn, 1) := by decide +kernel
set_option maxRecDepth 20000 in
theorem ggX7_weighs_X7_in : GoodIn wsX7_weighs wsX7_in := goodIn_r _ [4] (by decide +kernel) (by decide +kernel)
set_option maxRecDepth 20000 in
theorem gX7_weighs_X7_in : GoodIn wsX7_weighs (va_wsS RX7 36 yX7_in wsX7_in) := goodIn_app (goodIn_of _ (by decide +kernel)) ggX7_weighs_X7_in
set_option maxRecDepth 20000 in
theorem ggX7_weighs_X7_isMember : GoodIn wsX7_weighs wsX7_isMember := goodIn_r _ [7, 1, 2, 3, 4] (by decide +kernel) (by decide +kernel)
set_option maxRecDepth 20000 in
theorem gX7_weighs_X7_isMember : GoodIn wsX7_weighs (va_wsS RX7 48 yX7_isMember wsX7_isMember) := goodIn_app (goodIn_of _ (by decide +kernel)) ggX7_weighs_X7_isMember
set_option maxRecDepth 20000 in
theorem ggX7_weighs_X7_has : GoodIn wsX7_weighs wsX7_has := goodIn_r _ [10] (by decide +kernel) (by decide +kernel)
set_option maxRecDepth 20000 in
theorem gX7_weighs_X7_has : GoodIn wsX7_weighs (va_wsS RX7 88 yX7_has wsX7_has) := goodIn_app (goodIn_of _ (by decide +kernel)) ggX7_weighs_X7_has
set_option maxRecDepth 20000 in
theorem ggX7_weighs_X7_weight : GoodIn wsX7_weighs wsX7_weight := goodIn_r _ [13, 8, 9, 3, 10, 14, 15, 16, 17, 18, 19, 20, 21, 22] (by decide +kernel) (by decide +kernel)
set_option maxRecDepth 20000 in
theorem gX7_weighs_X7_weight : GoodIn wsX7_weighs (va_wsS RX7 94 yX7_weight wsX7_weight) := goodIn_app (goodIn_of _ (by decide +kernel)) ggX7_weighs_X7_weight
theorem dX7_weighs_0 : decode cX7_weighs 0 = .ok (.iload_n 3, 1) := by decide +kernel
theorem dX7_weighs_1 : decode cX7_weighs 1 = .ok (.iconst 0, 1) := by decide +kernel
theorem dX7_weighs_2 : decode cX7_weighs 2 = .ok (.bipush 22, 2) := by decide +kernel
theorem dX7_weighs_4 : decode cX7_weighs 4 = .ok (.invokestatic 36, 3) := by decide +kernel
theorem dX7_weighs_7 : decode cX7_weighs 7 = .ok (.ifCond .eq 11, 3) := by decide +kernel
theorem dX7_weighs_10 : decode cX7_weighs 10 = .ok (.iload_n 2, 1) := by decide +kernel
theorem dX7_weighs_11 : decode cX7_weighs 11 = .ok (.sipush (-255), 3) := by decide +kernel
theorem dX7_weighs_14 : decode cX7_weighs 14 = .ok (.iand, 1) := by decide +kernel
theorem dX7_weighs_15 : decode cX7_weighs 15 = .ok (.ifCond .eq 6, 3) := by decide +kernel
theorem dX7_weighs_18 : decode cX7_weighs 18 = .ok (.bipush (-2), 2) := by decide +kernel
theorem dX7_weighs_20 : decode cX7_weighs 20 = .ok (.ireturn, 1) := by decide +kernel
theorem dX7_weighs_21 : decode cX7_weighs 21 = .ok (.iload_n 1, 1) := by decide +kernel
theorem dX7_weighs_22 : decode cX7_weighs 22 = .ok (.invokestatic 48, 3) := by decide +kernel
theorem dX7_weighs_25 : decode cX7_weighs 25 = .ok (.ifCond .eq 11, 3) := by decide +kernel
theorem dX7_weighs_28 : decode cX7_weighs 28 = .ok (.iload_n 2, 1) := by decide +kernel
theorem dX7_weighs_29 : decode cX7_weighs 29 = .ok (.iload_n 1, 1) := by decide +kernel
theorem dX7_weighs_30 : decode cX7_weighs 30 = .ok (.invokestatic 88, 3) := by decide +kernel
theorem dX7_weighs_33 : decode cX7_weighs 33 = .ok (.ifCond .ne 5, 3) := by decide +kernel
theorem dX7_weighs_36 : decode cX7_weighs 36 = .ok (.iconst (-1), 1) := by decide +kernel
theorem dX7_weighs_37 : decode cX7_weighs 37 = .ok (.ireturn, 1) := by decide +kernel
theorem dX7_weighs_38 : decode cX7_weighs 38 = .ok (.iload_n 1, 1) := by decide +kernel
theorem dX7_weighs_39 : decode cX7_weighs 39 = .ok (.iload_n 2, 1) := by decide +kernel
theorem dX7_weighs_40 : decode cX7_weighs 40 = .ok (.iload_n 3, 1) := by decide +kernel
theorem dX7_weighs_41 : decode cX7_weighs 41 = .ok (.invokestatic 94, 3) := by decide +kernel
theorem dX7_weighs_44 : decode cX7_weighs 44 = .ok (.ireturn, 1) := by decide +kernel
set_option maxRecDepth 20000 in
theorem ggX7_polyAt_X7_power : GoodIn wsX7_polyAt wsX7_power := goodIn_r _ [6] (by decide +kernel) (by decide +kernel)
set_option maxRecDepth 20000 in
theorem gX7_polyAt_X7_power : GoodIn wsX7_polyAt (va_wsS RX7 40 yX7_power wsX7_power) := goodIn_app (goodIn_of _ (by decide +kernel)) ggX7_polyAt_X7_power
theorem dX7_polyAt_0 : decode cX7_polyAt 0 = .ok (.iconst 0, 1) := by decide +kernel
theorem dX7_polyAt_1 : decode cX7_polyAt 1 = .ok (.istore_n 2, 1) := by decide +kernel
theorem dX7_polyAt_2 : decode cX7_polyAt 2 = .ok (.iconst 0, 1) := by decide +kernel
theorem dX7_polyAt_3 : decode cX7_polyAt 3 = .ok (.istore_n 3, 1) := by decide +kernel
theorem dX7_polyAt_4 : decode cX7_polyAt 4 = .ok (.iload_n 3, 1) := by decide +kernel
theorem dX7_polyAt_5 : decode cX7_polyAt 5 = .ok (.aload_n 0, 1) := by decide +kernel
theorem dX7_polyAt_6 : decode cX7_polyAt 6 = .ok (.getfield 97, 3) := by decide +kernel
theorem dX7_polyAt_9 : decode cX7_polyAt 9 = .ok (.if_icmp .ge 26, 3) := by decide +kernel
theorem dX7_polyAt_12 : decode cX7_polyAt 12 = .ok (.iload_n 2, 1) := by decide +kernel
theorem dX7_polyAt_13 : decode cX7_polyAt 13 = .ok (.aload_n 0, 1) := by decide +kernel
theorem dX7_polyAt_14 : decode cX7_polyAt 14 = .ok (.getfield 16, 3) := by decide +kernel
theorem dX7_polyAt_17 : decode cX7_polyAt 17 = .ok (.iload_n 3, 1) := by decide +kernel
theorem dX7_polyAt_18 : decode cX7_polyAt 18 = .ok (.iaload, 1) := by decide +kernel
theorem dX7_polyAt_19 : decode cX7_polyAt 19 = .ok (.iload_n 1, 1) := by decide +kernel
theorem dX7_polyAt_20 : decode cX7_polyAt 20 = .ok (.iload_n 3, 1) := by decide +kernel
theorem dX7_polyAt_21 : decode cX7_polyAt 21 = .ok (.bipush 23, 2) := by decide +kernel
theorem dX7_polyAt_23 : decode cX7_polyAt 23 = .ok (.invokestatic 40, 3) := by decide +kernel
theorem dX7_polyAt_26 : decode cX7_polyAt 26 = .ok (.imul, 1) := by decide +kernel
theorem dX7_polyAt_27 : decode cX7_polyAt 27 = .ok (.iadd, 1) := by decide +kernel
theorem dX7_polyAt_28 : decode cX7_polyAt 28 = .ok (.istore_n 2, 1) := by decide +kernel
theorem dX7_polyAt_29 : decode cX7_polyAt 29 = .ok (.iinc 3 1, 3) := by decide +kernel
theorem dX7_polyAt_32 : decode cX7_polyAt 32 = .ok (.goto (-28), 3) := by decide +kernel
theorem dX7_polyAt_35 : decode cX7_polyAt 35 = .ok (.iload_n 2, 1) := by decide +kernel
theorem dX7_polyAt_36 : decode cX7_polyAt 36 = .ok (.bipush 23, 2) := by decide +kernel
theorem dX7_polyAt_38 : decode cX7_polyAt 38 = .ok (.irem, 1) := by decide +kernel
theorem dX7_polyAt_39 : decode cX7_polyAt 39 = .ok (.ireturn, 1) := by decide +kernel
set_option maxRecDepth 20000 in
theorem ggX7_fitsPoly_X7_sealOf : GoodIn wsX7_fitsPoly wsX7_sealOf := goodIn_r _ [6, 7, 8, 5, 9] (by decide +kernel) (by decide +kernel)
set_option maxRecDepth 20000 in
theorem gX7_fitsPoly_X7_sealOf : GoodIn wsX7_fitsPoly (va_wsS RX7 58 yX7_sealOf wsX7_sealOf) := goodIn_app (goodIn_of _ (by decide +kernel)) ggX7_fitsPoly_X7_sealOf
set_option maxRecDepth 20000 in
theorem ggX7_fitsPoly_X7_power : GoodIn wsX7_fitsPoly wsX7_power := goodIn_r _ [9] (by decide +kernel) (by decide +kernel)
set_option maxRecDepth 20000 in
theorem gX7_fitsPoly_X7_power : GoodIn wsX7_fitsPoly (va_wsS RX7 40 yX7_power wsX7_power) := goodIn_app (goodIn_of _ (by decide +kernel)) ggX7_fitsPoly_X7_power
theorem dX7_fitsPoly_0 : decode cX7_fitsPoly 0 = .ok (.iconst 1, 1) := by decide +kernel
theorem dX7_fitsPoly_1 : decode cX7_fitsPoly 1 = .ok (.istore_n 3, 1) := by decide +kernel
theorem dX7_fitsPoly_2 : decode cX7_fitsPoly 2 = .ok (.iconst 0, 1) := by decide +kernel
theorem dX7_fitsPoly_3 : decode cX7_fitsPoly 3 = .ok (.istore 4, 2) := by decide +kernel
theorem dX7_fitsPoly_5 : decode cX7_fitsPoly 5 = .ok (.iload 4, 2) := by decide +kernel
theorem dX7_fitsPoly_7 : decode cX7_fitsPoly 7 = .ok (.aload_n 0, 1) := by decide +kernel
theorem dX7_fitsPoly_8 : decode cX7_fitsPoly 8 = .ok (.getfield 97, 3) := by decide +kernel
theorem dX7_fitsPoly_11 : decode cX7_fitsPoly 11 = .ok (.if_icmp .ge 38, 3) := by decide +kernel
theorem dX7_fitsPoly_14 : decode cX7_fitsPoly 14 = .ok (.iload_n 3, 1) := by decide +kernel
theorem dX7_fitsPoly_15 : decode cX7_fitsPoly 15 = .ok (.aload_n 0, 1) := by decide +kernel
theorem dX7_fitsPoly_16 : decode cX7_fitsPoly 16 = .ok (.getfield 16, 3) := by decide +kernel
theorem dX7_fitsPoly_19 : decode cX7_fitsPoly 19 = .ok (.iload 4, 2) := by decide +kernel
theorem dX7_fitsPoly_21 : decode cX7_fitsPoly 21 = .ok (.iaload, 1) := by decide +kernel
theorem dX7_fitsPoly_22 : decode cX7_fitsPoly 22 = .ok (.invokestatic 58, 3) := by decide +kernel
theorem dX7_fitsPoly_25 : decode cX7_fitsPoly 25 = .ok (.iload_n 2, 1) := by decide +kernel
theorem dX7_fitsPoly_26 : decode cX7_fitsPoly 26 = .ok (.iload 4, 2) := by decide +kernel
theorem dX7_fitsPoly_28 : decode cX7_fitsPoly 28 = .ok (.bipush 23, 2) := by decide +kernel
theorem dX7_fitsPoly_30 : decode cX7_fitsPoly 30 = .ok (.invokestatic 40, 3) := by decide +kernel
theorem dX7_fitsPoly_33 : decode cX7_fitsPoly 33 = .ok (.bipush 47, 2) := by decide +kernel
theorem dX7_fitsPoly_35 : decode cX7_fitsPoly 35 = .ok (.invokestatic 40, 3) := by decide +kernel
theorem dX7_fitsPoly_38 : decode cX7_fitsPoly 38 = .ok (.imul, 1) := by decide +kernel
theorem dX7_fitsPoly_39 : decode cX7_fitsPoly 39 = .ok (.bipush 47, 2) := by decide +kernel
theorem dX7_fitsPoly_41 : decode cX7_fitsPoly 41 = .ok (.irem, 1) := by decide +kernel
theorem dX7_fitsPoly_42 : decode cX7_fitsPoly 42 = .ok (.istore_n 3, 1) := by decide +kernel
theorem dX7_fitsPoly_43 : decode cX7_fitsPoly 43 = .ok (.iinc 4 1, 3) := by decide +kernel
theorem dX7_fitsPoly_46 : decode cX7_fitsPoly 46 = .ok (.goto (-41), 3) := by decide +kernel
theorem dX7_fitsPoly_49 : decode cX7_fitsPoly 49 = .ok (.iload_n 3, 1) := by decide +kernel
theorem dX7_fitsPoly_50 : decode cX7_fitsPoly 50 = .ok (.iload_n 1, 1) := by decide +kernel
theorem dX7_fitsPoly_51 : decode cX7_fitsPoly 51 = .ok (.invokestatic 58, 3) := by decide +kernel
theorem dX7_fitsPoly_54 : decode cX7_fitsPoly 54 = .ok (.if_icmp .ne 7, 3) := by decide +kernel
theorem dX7_fitsPoly_57 : decode cX7_fitsPoly 57 = .ok (.iconst 1, 1) := by decide +kernel
theorem dX7_fitsPoly_58 : decode cX7_fitsPoly 58 = .ok (.goto 4, 3) := by decide +kernel
theorem dX7_fitsPoly_61 : decode cX7_fitsPoly 61 = .ok (.iconst 0, 1) := by decide +kernel
theorem dX7_fitsPoly_62 : decode cX7_fitsPoly 62 = .ok (.ireturn, 1) := by decide +kernel
theorem dX7_layPoly_0 : decode cX7_layPoly 0 = .ok (.aload_n 0, 1) := by decide +kernel
theorem dX7_layPoly_1 : decode cX7_layPoly 1 = .ok (.iload_n 3, 1) := by decide +kernel
theorem dX7_layPoly_2 : decode cX7_layPoly 2 = .ok (.putfield 97, 3) := by decide +kernel
theorem dX7_layPoly_5 : decode cX7_layPoly 5 = .ok (.aload_n 0, 1) := by decide +kernel
theorem dX7_layPoly_6 : decode cX7_layPoly 6 = .ok (.getfield 16, 3) := by decide +kernel
theorem dX7_layPoly_9 : decode cX7_layPoly 9 = .ok (.iconst 0, 1) := by decide +kernel
theorem dX7_layPoly_10 : decode cX7_layPoly 10 = .ok (.iload_n 2, 1) := by decide +kernel
theorem dX7_layPoly_11 : decode cX7_layPoly 11 = .ok (.iastore, 1) := by decide +kernel
theorem dX7_layPoly_12 : decode cX7_layPoly 12 = .ok (.iconst 1, 1) := by decide +kernel
theorem dX7_layPoly_13 : decode cX7_layPoly 13 = .ok (.istore 4, 2) := by decide +kernel
theorem dX7_layPoly_15 : decode cX7_layPoly 15 = .ok (.iload 4, 2) := by decide +kernel
theorem dX7_layPoly_17 : decode cX7_layPoly 17 = .ok (.iload_n 3, 1) := by decide +kernel
theorem dX7_layPoly_18 : decode cX7_layPoly 18 = .ok (.if_icmp .ge 29, 3) := by decide +kernel
theorem dX7_layPoly_21 : decode cX7_layPoly 21 = .ok (.aload_n 0, 1) := by decide +kernel
theorem dX7_layPoly_22 : decode cX7_layPoly 22 = .ok (.getfield 16, 3) := by decide +kernel
theorem dX7_layPoly_25 : decode cX7_layPoly 25 = .ok (.iload 4, 2) := by decide +kernel
theorem dX7_layPoly_27 : decode cX7_layPoly 27 = .ok (.aload_n 0, 1) := by decide +kernel
theorem dX7_layPoly_28 : decode cX7_layPoly 28 = .ok (.getfield 7, 3) := by decide +kernel
theorem dX7_layPoly_31 : decode cX7_layPoly 31 = .ok (.iconst 0, 1) := by decide +kernel
theorem dX7_layPoly_32 : decode cX7_layPoly 32 = .ok (.iconst 5, 1) := by decide +kernel
theorem dX7_layPoly_33 : decode cX7_layPoly 33 = .ok (.iload_n 1, 1) := by decide +kernel
theorem dX7_layPoly_34 : decode cX7_layPoly 34 = .ok (.imul, 1) := by decide +kernel
theorem dX7_layPoly_35 : decode cX7_layPoly 35 = .ok (.iadd, 1) := by decide +kernel
theorem dX7_layPoly_36 : decode cX7_layPoly 36 = .ok (.iload 4, 2) := by decide +kernel
theorem dX7_layPoly_38 : decode cX7_layPoly 38 = .ok (.iadd, 1) := by decide +kernel
theorem dX7_layPoly_39 : decode cX7_layPoly 39 = .ok (.iaload, 1) := by decide +kernel
theorem dX7_layPoly_40 : decode cX7_layPoly 40 = .ok (.iastore, 1) := by decide +kernel
theorem dX7_layPoly_41 : decode cX7_layPoly 41 = .ok (.iinc 4 1, 3) := by decide +kernel
theorem dX7_layPoly_44 : decode cX7_layPoly 44 = .ok (.goto (-29), 3) := by decide +kernel
theorem dX7_layPoly_47 : decode cX7_layPoly 47 = .ok (.return_, 1) := by decide +kernel
set_option maxRecDepth 20000 in
theorem ggX7_having_X7_hasShare : GoodIn wsX7_having wsX7_hasShare := goodIn_r _ [5, 6, 7, 8, 9, 10, 11, 12, 13, 14, 15] (by decide +kernel) (by decide +kernel)
set_option maxRecDepth 20000 in
theorem gX7_having_X7_hasShare : GoodIn wsX7_having (wsV RX7 61 RX7 yX7_hasShare wsX7_hasShare) := goodIn_app (goodIn_of _ (by decide +kernel)) ggX7_having_X7_hasShare
theorem dX7_having_0 : decode cX7_having 0 = .ok (.iconst 0, 1) := by decide +kernel
theorem dX7_having_1 : decode cX7_having 1 = .ok (.istore_n 1, 1) := by decide +kernel
theorem dX7_having_2 : decode cX7_having 2 = .ok (.iconst 1, 1) := by decide +kernel
theorem dX7_having_3 : decode cX7_having 3 = .ok (.istore_n 2, 1) := by decide +kernel
theorem dX7_having_4 : decode cX7_having 4 = .ok (.iload_n 2, 1) := by decide +kernel
theorem dX7_having_5 : decode cX7_having 5 = .ok (.bipush 7, 2) := by decide +kernel
theorem dX7_having_7 : decode cX7_having 7 = .ok (.if_icmp .gt 27, 3) := by decide +kernel
theorem dX7_having_10 : decode cX7_having 10 = .ok (.iload_n 1, 1) := by decide +kernel
theorem dX7_having_11 : decode cX7_having 11 = .ok (.aload_n 0, 1) := by decide +kernel
theorem dX7_having_12 : decode cX7_having 12 = .ok (.iload_n 2, 1) := by decide +kernel
theorem dX7_having_13 : decode cX7_having 13 = .ok (.invokevirtual 61, 3) := by decide +kernel
theorem dX7_having_16 : decode cX7_having 16 = .ok (.ifCond .eq 9, 3) := by decide +kernel
theorem dX7_having_19 : decode cX7_having 19 = .ok (.iconst 1, 1) := by decide +kernel
theorem dX7_having_20 : decode cX7_having 20 = .ok (.iload_n 2, 1) := by decide +kernel
theorem dX7_having_21 : decode cX7_having 21 = .ok (.ishl, 1) := by decide +kernel
theorem dX7_having_22 : decode cX7_having 22 = .ok (.goto 4, 3) := by decide +kernel
theorem dX7_having_25 : decode cX7_having 25 = .ok (.iconst 0, 1) := by decide +kernel
theorem dX7_having_26 : decode cX7_having 26 = .ok (.ior, 1) := by decide +kernel
theorem dX7_having_27 : decode cX7_having 27 = .ok (.istore_n 1, 1) := by decide +kernel
theorem dX7_having_28 : decode cX7_having 28 = .ok (.iinc 2 1, 3) := by decide +kernel
theorem dX7_having_31 : decode cX7_having 31 = .ok (.goto (-27), 3) := by decide +kernel
theorem dX7_having_34 : decode cX7_having 34 = .ok (.iload_n 1, 1) := by decide +kernel
theorem dX7_having_35 : decode cX7_having 35 = .ok (.ireturn, 1) := by decide +kernel
theorem dX7_bits_0 : decode cX7_bits 0 = .ok (.iconst 0, 1) := by decide +kernel
theorem dX7_bits_1 : decode cX7_bits 1 = .ok (.istore_n 1, 1) := by decide +kernel
theorem dX7_bits_2 : decode cX7_bits 2 = .ok (.iconst 0, 1) := by decide +kernel
theorem dX7_bits_3 : decode cX7_bits 3 = .ok (.istore_n 2, 1) := by decide +kernel
theorem dX7_bits_4 : decode cX7_bits 4 = .ok (.iload_n 2, 1) := by decide +kernel
theorem dX7_bits_5 : decode cX7_bits 5 = .ok (.bipush 8, 2) := by decide +kernel
theorem dX7_bits_7 : decode cX7_bits 7 = .ok (.if_icmp .ge 17, 3) := by decide +kernel
theorem dX7_bits_10 : decode cX7_bits 10 = .ok (.iload_n 1, 1) := by decide +kernel
theorem dX7_bits_11 : decode cX7_bits 11 = .ok (.iload_n 0, 1) := by decide +kernel
theorem dX7_bits_12 : decode cX7_bits 12 = .ok (.iload_n 2, 1) := by decide +kernel
theorem dX7_bits_13 : decode cX7_bits 13 = .ok (.ishr, 1) := by decide +kernel
theorem dX7_bits_14 : decode cX7_bits 14 = .ok (.iconst 1, 1) := by decide +kernel
theorem dX7_bits_15 : decode cX7_bits 15 = .ok (.iand, 1) := by decide +kernel
theorem dX7_bits_16 : decode cX7_bits 16 = .ok (.iadd, 1) := by decide +kernel
theorem dX7_bits_17 : decode cX7_bits 17 = .ok (.istore_n 1, 1) := by decide +kernel
theorem dX7_bits_18 : decode cX7_bits 18 = .ok (.iinc 2 1, 3) := by decide +kernel
theorem dX7_bits_21 : decode cX7_bits 21 = .ok (.goto (-17), 3) := by decide +kernel
theorem dX7_bits_24 : decode cX7_bits 24 = .ok (.iload_n 1, 1) := by decide +kernel
theorem dX7_bits_25 : decode cX7_bits 25 = .ok (.ireturn, 1) := by decide +kernel
set_option maxRecDepth 20000 in
theorem ggX7_isStruck_X7_hasShare : GoodIn wsX7_isStruck wsX7_hasShare := goodIn_r _ [6, 1, 33, 34, 35, 36, 37, 38, 39, 40, 41] (by decide +kernel) (by decide +kernel)
set_option maxRecDepth 20000 in
theorem gX7_isStruck_X7_hasShare : GoodIn wsX7_isStruck (wsV RX7 61 RX7 yX7_hasShare wsX7_hasShare) := goodIn_app (goodIn_of _ (by decide +kernel)) ggX7_isStruck_X7_hasShare
set_option maxRecDepth 20000 in
theorem ggX7_isStruck_X7_polyAt : GoodIn wsX7_isStruck wsX7_polyAt := goodIn_r _ [10, 11, 12, 13, 14, 5, 15, 33, 34, 35, 36, 37, 38, 39, 40, 41] (by decide +kernel) (by decide +kernel)
set_option maxRecDepth 20000 in
theorem gX7_isStruck_X7_polyAt : GoodIn wsX7_isStruck (wsV RX7 100 RX7 yX7_polyAt wsX7_polyAt) := goodIn_app (goodIn_of _ (by decide +kernel)) ggX7_isStruck_X7_polyAt
set_option maxRecDepth 20000 in
theorem ggX7_isStruck_X7_bentOf : GoodIn wsX7_isStruck wsX7_bentOf := goodIn_r _ [19, 1, 20, 21, 5, 22, 33, 34, 35, 36, 37, 38, 39, 40, 41] (by decide +kernel) (by decide +kernel)
set_option maxRecDepth 20000 in
theorem gX7_isStruck_X7_bentOf : GoodIn wsX7_isStruck (wsV RX7 51 RX7 yX7_bentOf wsX7_bentOf) := goodIn_app (goodIn_of _ (by decide +kernel)) ggX7_isStruck_X7_bentOf
set_option maxRecDepth 20000 in
theorem ggX7_isStruck_X7_mod : GoodIn wsX7_isStruck wsX7_mod := goodIn_r _ [25] (by decide +kernel) (by decide +kernel)
set_option maxRecDepth 20000 in
theorem gX7_isStruck_X7_mod : GoodIn wsX7_isStruck (va_wsS RX7 54 yX7_mod wsX7_mod) := goodIn_app (goodIn_of _ (by decide +kernel)) ggX7_isStruck_X7_mod
set_option maxRecDepth 20000 in
theorem ggX7_isStruck_X7_fitsPoly : GoodIn wsX7_isStruck wsX7_fitsPoly := goodIn_r _ [29, 11, 12, 30, 31, 5, 32, 13, 14, 15, 33, 34, 35, 36, 37, 38, 39, 40, 41] (by decide +kernel) (by decide +kernel)
set_option maxRecDepth 20000 in
theorem gX7_isStruck_X7_fitsPoly : GoodIn wsX7_isStruck (wsV RX7 103 RX7 yX7_fitsPoly wsX7_fitsPoly) := goodIn_app (goodIn_of _ (by decide +kernel)) ggX7_isStruck_X7_fitsPoly
theorem dX7_isStruck_0 : decode cX7_isStruck 0 = .ok (.iconst 0, 1) := by decide +kernel
theorem dX7_isStruck_1 : decode cX7_isStruck 1 = .ok (.istore_n 2, 1) := by decide +kernel
theorem dX7_isStruck_2 : decode cX7_isStruck 2 = .ok (.iconst 0, 1) := by decide +kernel
theorem dX7_isStruck_3 : decode cX7_isStruck 3 = .ok (.istore_n 3, 1) := by decide +kernel
theorem dX7_isStruck_4 : decode cX7_isStruck 4 = .ok (.iconst 1, 1) := by decide +kernel
theorem dX7_isStruck_5 : decode cX7_isStruck 5 = .ok (.istore 4, 2) := by decide +kernel
theorem dX7_isStruck_7 : decode cX7_isStruck 7 = .ok (.iload 4, 2) := by decide +kernel
theorem dX7_isStruck_9 : decode cX7_isStruck 9 = .ok (.bipush 7, 2) := by decide +kernel
theorem dX7_isStruck_11 : decode cX7_isStruck 11 = .ok (.if_icmp .gt 120, 3) := by decide +kernel
theorem dX7_isStruck_14 : decode cX7_isStruck 14 = .ok (.aload_n 0, 1) := by decide +kernel
theorem dX7_isStruck_15 : decode cX7_isStruck 15 = .ok (.iload 4, 2) := by decide +kernel
theorem dX7_isStruck_17 : decode cX7_isStruck 17 = .ok (.invokevirtual 61, 3) := by decide +kernel
theorem dX7_isStruck_20 : decode cX7_isStruck 20 = .ok (.ifCond .eq 105, 3) := by decide +kernel
theorem dX7_isStruck_23 : decode cX7_isStruck 23 = .ok (.aload_n 0, 1) := by decide +kernel
theorem dX7_isStruck_24 : decode cX7_isStruck 24 = .ok (.iload 4, 2) := by decide +kernel
theorem dX7_isStruck_26 : decode cX7_isStruck 26 = .ok (.invokevirtual 100, 3) := by decide +kernel
theorem dX7_isStruck_29 : decode cX7_isStruck 29 = .ok (.aload_n 0, 1) := by decide +kernel
theorem dX7_isStruck_30 : decode cX7_isStruck 30 = .ok (.iload_n 1, 1) := by decide +kernel
theorem dX7_isStruck_31 : decode cX7_isStruck 31 = .ok (.iconst 2, 1) := by decide +kernel
theorem dX7_isStruck_32 : decode cX7_isStruck 32 = .ok (.invokevirtual 51, 3) := by decide +kernel
theorem dX7_isStruck_35 : decode cX7_isStruck 35 = .ok (.iload 4, 2) := by decide +kernel
theorem dX7_isStruck_37 : decode cX7_isStruck 37 = .ok (.if_icmp .ne 12, 3) := by decide +kernel
theorem dX7_isStruck_40 : decode cX7_isStruck 40 = .ok (.aload_n 0, 1) := by decide +kernel
theorem dX7_isStruck_41 : decode cX7_isStruck 41 = .ok (.iload_n 1, 1) := by decide +kernel
theorem dX7_isStruck_42 : decode cX7_isStruck 42 = .ok (.iconst 1, 1) := by decide +kernel
theorem dX7_isStruck_43 : decode cX7_isStruck 43 = .ok (.invokevirtual 51, 3) := by decide +kernel
theorem dX7_isStruck_46 : decode cX7_isStruck 46 = .ok (.goto 4, 3) := by decide +kernel
theorem dX7_isStruck_49 : decode cX7_isStruck 49 = .ok (.iconst 0, 1) := by decide +kernel
theorem dX7_isStruck_50 : decode cX7_isStruck 50 = .ok (.iadd, 1) := by decide +kernel
theorem dX7_isStruck_51 : decode cX7_isStruck 51 = .ok (.invokestatic 54, 3) := by decide +kernel
theorem dX7_isStruck_54 : decode cX7_isStruck 54 = .ok (.istore 5, 2) := by decide +kernel
theorem dX7_isStruck_56 : decode cX7_isStruck 56 = .ok (.aload_n 0, 1) := by decide +kernel
theorem dX7_isStruck_57 : decode cX7_isStruck 57 = .ok (.iload 5, 2) := by decide +kernel
theorem dX7_isStruck_59 : decode cX7_isStruck 59 = .ok (.iload 4, 2) := by decide +kernel
theorem dX7_isStruck_61 : decode cX7_isStruck 61 = .ok (.invokevirtual 103, 3) := by decide +kernel
theorem dX7_isStruck_64 : decode cX7_isStruck 64 = .ok (.istore 6, 2) := by decide +kernel
theorem dX7_isStruck_66 : decode cX7_isStruck 66 = .ok (.aload_n 0, 1) := by decide +kernel
theorem dX7_isStruck_67 : decode cX7_isStruck 67 = .ok (.iload 4, 2) := by decide +kernel
theorem dX7_isStruck_69 : decode cX7_isStruck 69 = .ok (.iconst 3, 1) := by decide +kernel
theorem dX7_isStruck_70 : decode cX7_isStruck 70 = .ok (.invokevirtual 51, 3) := by decide +kernel
theorem dX7_isStruck_73 : decode cX7_isStruck 73 = .ok (.iload_n 1, 1) := by decide +kernel
theorem dX7_isStruck_74 : decode cX7_isStruck 74 = .ok (.if_icmp .ne 7, 3) := by decide +kernel
theorem dX7_isStruck_77 : decode cX7_isStruck 77 = .ok (.iconst 1, 1) := by decide +kernel
theorem dX7_isStruck_78 : decode cX7_isStruck 78 = .ok (.goto 4, 3) := by decide +kernel
theorem dX7_isStruck_81 : decode cX7_isStruck 81 = .ok (.iconst 0, 1) := by decide +kernel
theorem dX7_isStruck_82 : decode cX7_isStruck 82 = .ok (.istore 7, 2) := by decide +kernel
theorem dX7_isStruck_84 : decode cX7_isStruck 84 = .ok (.iload_n 2, 1) := by decide +kernel
