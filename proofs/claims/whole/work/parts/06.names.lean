theorem dX7_isStruck_85 : decode cX7_isStruck 85 = .ok (.ifCond .ne 13, 3) := by decide +kernel
theorem dX7_isStruck_88 : decode cX7_isStruck 88 = .ok (.iload 6, 2) := by decide +kernel
theorem dX7_isStruck_90 : decode cX7_isStruck 90 = .ok (.ifCond .eq 8, 3) := by decide +kernel
theorem dX7_isStruck_93 : decode cX7_isStruck 93 = .ok (.iload 7, 2) := by decide +kernel
theorem dX7_isStruck_95 : decode cX7_isStruck 95 = .ok (.ifCond .eq 7, 3) := by decide +kernel
theorem dX7_isStruck_98 : decode cX7_isStruck 98 = .ok (.iconst 1, 1) := by decide +kernel
theorem dX7_isStruck_99 : decode cX7_isStruck 99 = .ok (.goto 4, 3) := by decide +kernel
theorem dX7_isStruck_102 : decode cX7_isStruck 102 = .ok (.iconst 0, 1) := by decide +kernel
theorem dX7_isStruck_103 : decode cX7_isStruck 103 = .ok (.istore_n 2, 1) := by decide +kernel
theorem dX7_isStruck_104 : decode cX7_isStruck 104 = .ok (.iload_n 3, 1) := by decide +kernel
theorem dX7_isStruck_105 : decode cX7_isStruck 105 = .ok (.iload 6, 2) := by decide +kernel
theorem dX7_isStruck_107 : decode cX7_isStruck 107 = .ok (.ifCond .eq 15, 3) := by decide +kernel
theorem dX7_isStruck_110 : decode cX7_isStruck 110 = .ok (.iload 7, 2) := by decide +kernel
theorem dX7_isStruck_112 : decode cX7_isStruck 112 = .ok (.ifCond .eq 10, 3) := by decide +kernel
theorem dX7_isStruck_115 : decode cX7_isStruck 115 = .ok (.iconst 1, 1) := by decide +kernel
theorem dX7_isStruck_116 : decode cX7_isStruck 116 = .ok (.iload 4, 2) := by decide +kernel
theorem dX7_isStruck_118 : decode cX7_isStruck 118 = .ok (.ishl, 1) := by decide +kernel
theorem dX7_isStruck_119 : decode cX7_isStruck 119 = .ok (.goto 4, 3) := by decide +kernel
theorem dX7_isStruck_122 : decode cX7_isStruck 122 = .ok (.iconst 0, 1) := by decide +kernel
theorem dX7_isStruck_123 : decode cX7_isStruck 123 = .ok (.ior, 1) := by decide +kernel
theorem dX7_isStruck_124 : decode cX7_isStruck 124 = .ok (.istore_n 3, 1) := by decide +kernel
theorem dX7_isStruck_125 : decode cX7_isStruck 125 = .ok (.iinc 4 1, 3) := by decide +kernel
theorem dX7_isStruck_128 : decode cX7_isStruck 128 = .ok (.goto (-121), 3) := by decide +kernel
theorem dX7_isStruck_131 : decode cX7_isStruck 131 = .ok (.iload_n 2, 1) := by decide +kernel
theorem dX7_isStruck_132 : decode cX7_isStruck 132 = .ok (.ifCond .eq 28, 3) := by decide +kernel
theorem dX7_isStruck_135 : decode cX7_isStruck 135 = .ok (.aload_n 0, 1) := by decide +kernel
theorem dX7_isStruck_136 : decode cX7_isStruck 136 = .ok (.iload_n 1, 1) := by decide +kernel
theorem dX7_isStruck_137 : decode cX7_isStruck 137 = .ok (.iconst 4, 1) := by decide +kernel
theorem dX7_isStruck_138 : decode cX7_isStruck 138 = .ok (.invokevirtual 51, 3) := by decide +kernel
theorem dX7_isStruck_141 : decode cX7_isStruck 141 = .ok (.ifCond .ne 19, 3) := by decide +kernel
theorem dX7_isStruck_144 : decode cX7_isStruck 144 = .ok (.aload_n 0, 1) := by decide +kernel
theorem dX7_isStruck_145 : decode cX7_isStruck 145 = .ok (.getfield 7, 3) := by decide +kernel
theorem dX7_isStruck_148 : decode cX7_isStruck 148 = .ok (.sipush 370, 3) := by decide +kernel
theorem dX7_isStruck_151 : decode cX7_isStruck 151 = .ok (.dup2, 1) := by decide +kernel
theorem dX7_isStruck_152 : decode cX7_isStruck 152 = .ok (.iaload, 1) := by decide +kernel
theorem dX7_isStruck_153 : decode cX7_isStruck 153 = .ok (.iconst 1, 1) := by decide +kernel
theorem dX7_isStruck_154 : decode cX7_isStruck 154 = .ok (.iload_n 1, 1) := by decide +kernel
theorem dX7_isStruck_155 : decode cX7_isStruck 155 = .ok (.ishl, 1) := by decide +kernel
theorem dX7_isStruck_156 : decode cX7_isStruck 156 = .ok (.ior, 1) := by decide +kernel
theorem dX7_isStruck_157 : decode cX7_isStruck 157 = .ok (.iastore, 1) := by decide +kernel
theorem dX7_isStruck_158 : decode cX7_isStruck 158 = .ok (.iconst 1, 1) := by decide +kernel
theorem dX7_isStruck_159 : decode cX7_isStruck 159 = .ok (.ireturn, 1) := by decide +kernel
theorem dX7_isStruck_160 : decode cX7_isStruck 160 = .ok (.aload_n 0, 1) := by decide +kernel
theorem dX7_isStruck_161 : decode cX7_isStruck 161 = .ok (.getfield 7, 3) := by decide +kernel
theorem dX7_isStruck_164 : decode cX7_isStruck 164 = .ok (.sipush 369, 3) := by decide +kernel
theorem dX7_isStruck_167 : decode cX7_isStruck 167 = .ok (.dup2, 1) := by decide +kernel
theorem dX7_isStruck_168 : decode cX7_isStruck 168 = .ok (.iaload, 1) := by decide +kernel
theorem dX7_isStruck_169 : decode cX7_isStruck 169 = .ok (.iload_n 3, 1) := by decide +kernel
theorem dX7_isStruck_170 : decode cX7_isStruck 170 = .ok (.ior, 1) := by decide +kernel
theorem dX7_isStruck_171 : decode cX7_isStruck 171 = .ok (.iastore, 1) := by decide +kernel
theorem dX7_isStruck_172 : decode cX7_isStruck 172 = .ok (.iconst 0, 1) := by decide +kernel
theorem dX7_isStruck_173 : decode cX7_isStruck 173 = .ok (.ireturn, 1) := by decide +kernel
set_option maxRecDepth 20000 in
theorem ggX7_strike_X7_has : GoodIn wsX7_strike wsX7_has := goodIn_r _ [5] (by decide +kernel) (by decide +kernel)
set_option maxRecDepth 20000 in
theorem gX7_strike_X7_has : GoodIn wsX7_strike (va_wsS RX7 88 yX7_has wsX7_has) := goodIn_app (goodIn_of _ (by decide +kernel)) ggX7_strike_X7_has
theorem dX7_strike_0 : decode cX7_strike 0 = .ok (.iconst 1, 1) := by decide +kernel
theorem dX7_strike_1 : decode cX7_strike 1 = .ok (.istore_n 1, 1) := by decide +kernel
theorem dX7_strike_2 : decode cX7_strike 2 = .ok (.iload_n 1, 1) := by decide +kernel
theorem dX7_strike_3 : decode cX7_strike 3 = .ok (.bipush 7, 2) := by decide +kernel
theorem dX7_strike_5 : decode cX7_strike 5 = .ok (.if_icmp .gt 47, 3) := by decide +kernel
theorem dX7_strike_8 : decode cX7_strike 8 = .ok (.aload_n 0, 1) := by decide +kernel
theorem dX7_strike_9 : decode cX7_strike 9 = .ok (.getfield 7, 3) := by decide +kernel
theorem dX7_strike_12 : decode cX7_strike 12 = .ok (.bipush 40, 2) := by decide +kernel
theorem dX7_strike_14 : decode cX7_strike 14 = .ok (.iload_n 1, 1) := by decide +kernel
theorem dX7_strike_15 : decode cX7_strike 15 = .ok (.iadd, 1) := by decide +kernel
theorem dX7_strike_16 : decode cX7_strike 16 = .ok (.aload_n 0, 1) := by decide +kernel
theorem dX7_strike_17 : decode cX7_strike 17 = .ok (.getfield 7, 3) := by decide +kernel
theorem dX7_strike_20 : decode cX7_strike 20 = .ok (.sipush 370, 3) := by decide +kernel
theorem dX7_strike_23 : decode cX7_strike 23 = .ok (.iaload, 1) := by decide +kernel
theorem dX7_strike_24 : decode cX7_strike 24 = .ok (.iload_n 1, 1) := by decide +kernel
theorem dX7_strike_25 : decode cX7_strike 25 = .ok (.invokestatic 88, 3) := by decide +kernel
theorem dX7_strike_28 : decode cX7_strike 28 = .ok (.ifCond .eq 8, 3) := by decide +kernel
theorem dX7_strike_31 : decode cX7_strike 31 = .ok (.bipush (-6), 2) := by decide +kernel
theorem dX7_strike_33 : decode cX7_strike 33 = .ok (.goto 12, 3) := by decide +kernel
theorem dX7_strike_36 : decode cX7_strike 36 = .ok (.aload_n 0, 1) := by decide +kernel
theorem dX7_strike_37 : decode cX7_strike 37 = .ok (.getfield 7, 3) := by decide +kernel
theorem dX7_strike_40 : decode cX7_strike 40 = .ok (.bipush 40, 2) := by decide +kernel
theorem dX7_strike_42 : decode cX7_strike 42 = .ok (.iload_n 1, 1) := by decide +kernel
theorem dX7_strike_43 : decode cX7_strike 43 = .ok (.iadd, 1) := by decide +kernel
theorem dX7_strike_44 : decode cX7_strike 44 = .ok (.iaload, 1) := by decide +kernel
theorem dX7_strike_45 : decode cX7_strike 45 = .ok (.iastore, 1) := by decide +kernel
theorem dX7_strike_46 : decode cX7_strike 46 = .ok (.iinc 1 1, 3) := by decide +kernel
theorem dX7_strike_49 : decode cX7_strike 49 = .ok (.goto (-47), 3) := by decide +kernel
theorem dX7_strike_52 : decode cX7_strike 52 = .ok (.return_, 1) := by decide +kernel
theorem dX7_nextEpoch_0 : decode cX7_nextEpoch 0 = .ok (.aload_n 0, 1) := by decide +kernel
theorem dX7_nextEpoch_1 : decode cX7_nextEpoch 1 = .ok (.getfield 7, 3) := by decide +kernel
theorem dX7_nextEpoch_4 : decode cX7_nextEpoch 4 = .ok (.bipush 89, 2) := by decide +kernel
theorem dX7_nextEpoch_6 : decode cX7_nextEpoch 6 = .ok (.dup2, 1) := by decide +kernel
theorem dX7_nextEpoch_7 : decode cX7_nextEpoch 7 = .ok (.iaload, 1) := by decide +kernel
theorem dX7_nextEpoch_8 : decode cX7_nextEpoch 8 = .ok (.iconst 1, 1) := by decide +kernel
theorem dX7_nextEpoch_9 : decode cX7_nextEpoch 9 = .ok (.iadd, 1) := by decide +kernel
theorem dX7_nextEpoch_10 : decode cX7_nextEpoch 10 = .ok (.iastore, 1) := by decide +kernel
theorem dX7_nextEpoch_11 : decode cX7_nextEpoch 11 = .ok (.aload_n 0, 1) := by decide +kernel
theorem dX7_nextEpoch_12 : decode cX7_nextEpoch 12 = .ok (.getfield 7, 3) := by decide +kernel
theorem dX7_nextEpoch_15 : decode cX7_nextEpoch 15 = .ok (.bipush 95, 2) := by decide +kernel
theorem dX7_nextEpoch_17 : decode cX7_nextEpoch 17 = .ok (.aload_n 0, 1) := by decide +kernel
theorem dX7_nextEpoch_18 : decode cX7_nextEpoch 18 = .ok (.getfield 7, 3) := by decide +kernel
theorem dX7_nextEpoch_21 : decode cX7_nextEpoch 21 = .ok (.bipush 89, 2) := by decide +kernel
theorem dX7_nextEpoch_23 : decode cX7_nextEpoch 23 = .ok (.iaload, 1) := by decide +kernel
theorem dX7_nextEpoch_24 : decode cX7_nextEpoch 24 = .ok (.iadd, 1) := by decide +kernel
theorem dX7_nextEpoch_25 : decode cX7_nextEpoch 25 = .ok (.aload_n 0, 1) := by decide +kernel
theorem dX7_nextEpoch_26 : decode cX7_nextEpoch 26 = .ok (.getfield 7, 3) := by decide +kernel
theorem dX7_nextEpoch_29 : decode cX7_nextEpoch 29 = .ok (.bipush 88, 2) := by decide +kernel
theorem dX7_nextEpoch_31 : decode cX7_nextEpoch 31 = .ok (.iaload, 1) := by decide +kernel
theorem dX7_nextEpoch_32 : decode cX7_nextEpoch 32 = .ok (.iastore, 1) := by decide +kernel
theorem dX7_nextEpoch_33 : decode cX7_nextEpoch 33 = .ok (.return_, 1) := by decide +kernel
set_option maxRecDepth 20000 in
theorem ggX7_deal_X7_layPoly : GoodIn wsX7_deal wsX7_layPoly := goodIn_r _ [7, 8, 2, 1, 27, 28, 29, 30, 31, 32, 33, 34, 35] (by decide +kernel) (by decide +kernel)
set_option maxRecDepth 20000 in
theorem gX7_deal_X7_layPoly : GoodIn wsX7_deal (wsV RX7 106 RX7 yX7_layPoly wsX7_layPoly) := goodIn_app (goodIn_of _ (by decide +kernel)) ggX7_deal_X7_layPoly
set_option maxRecDepth 20000 in
theorem ggX7_deal_X7_sealOf : GoodIn wsX7_deal wsX7_sealOf := goodIn_r _ [11, 12, 13, 6, 14] (by decide +kernel) (by decide +kernel)
set_option maxRecDepth 20000 in
theorem gX7_deal_X7_sealOf : GoodIn wsX7_deal (va_wsS RX7 58 yX7_sealOf wsX7_sealOf) := goodIn_app (goodIn_of _ (by decide +kernel)) ggX7_deal_X7_sealOf
set_option maxRecDepth 20000 in
theorem ggX7_deal_X7_polyAt : GoodIn wsX7_deal wsX7_polyAt := goodIn_r _ [18, 8, 2, 12, 13, 6, 14, 27, 28, 29, 30, 31, 32, 33, 34, 35] (by decide +kernel) (by decide +kernel)
set_option maxRecDepth 20000 in
theorem gX7_deal_X7_polyAt : GoodIn wsX7_deal (wsV RX7 100 RX7 yX7_polyAt wsX7_polyAt) := goodIn_app (goodIn_of _ (by decide +kernel)) ggX7_deal_X7_polyAt
set_option maxRecDepth 20000 in
theorem ggX7_deal_X7_isDealt : GoodIn wsX7_deal wsX7_isDealt := goodIn_r _ [22, 1, 27, 28, 29, 30, 31, 32, 33, 34, 35] (by decide +kernel) (by decide +kernel)
set_option maxRecDepth 20000 in
theorem gX7_deal_X7_isDealt : GoodIn wsX7_deal (wsV RX7 110 RX7 yX7_isDealt wsX7_isDealt) := goodIn_app (goodIn_of _ (by decide +kernel)) ggX7_deal_X7_isDealt
set_option maxRecDepth 20000 in
theorem ggX7_deal_X7_nextEpoch : GoodIn wsX7_deal wsX7_nextEpoch := goodIn_r _ [26, 1, 27, 28, 29, 30, 31, 32, 33, 34, 35] (by decide +kernel) (by decide +kernel)
set_option maxRecDepth 20000 in
theorem gX7_deal_X7_nextEpoch : GoodIn wsX7_deal (wsV RX7 114 RX7 yX7_nextEpoch wsX7_nextEpoch) := goodIn_app (goodIn_of _ (by decide +kernel)) ggX7_deal_X7_nextEpoch
theorem dX7_deal_0 : decode cX7_deal 0 = .ok (.aload_n 0, 1) := by decide +kernel
theorem dX7_deal_1 : decode cX7_deal 1 = .ok (.iconst 0, 1) := by decide +kernel
theorem dX7_deal_2 : decode cX7_deal 2 = .ok (.aload_n 0, 1) := by decide +kernel
theorem dX7_deal_3 : decode cX7_deal 3 = .ok (.getfield 7, 3) := by decide +kernel
theorem dX7_deal_6 : decode cX7_deal 6 = .ok (.iconst 0, 1) := by decide +kernel
theorem dX7_deal_7 : decode cX7_deal 7 = .ok (.iaload, 1) := by decide +kernel
theorem dX7_deal_8 : decode cX7_deal 8 = .ok (.iload_n 1, 1) := by decide +kernel
theorem dX7_deal_9 : decode cX7_deal 9 = .ok (.invokevirtual 106, 3) := by decide +kernel
theorem dX7_deal_12 : decode cX7_deal 12 = .ok (.aload_n 0, 1) := by decide +kernel
theorem dX7_deal_13 : decode cX7_deal 13 = .ok (.getfield 7, 3) := by decide +kernel
theorem dX7_deal_16 : decode cX7_deal 16 = .ok (.bipush 88, 2) := by decide +kernel
theorem dX7_deal_18 : decode cX7_deal 18 = .ok (.iload_n 1, 1) := by decide +kernel
theorem dX7_deal_19 : decode cX7_deal 19 = .ok (.iastore, 1) := by decide +kernel
theorem dX7_deal_20 : decode cX7_deal 20 = .ok (.iconst 0, 1) := by decide +kernel
theorem dX7_deal_21 : decode cX7_deal 21 = .ok (.istore_n 2, 1) := by decide +kernel
theorem dX7_deal_22 : decode cX7_deal 22 = .ok (.iload_n 2, 1) := by decide +kernel
theorem dX7_deal_23 : decode cX7_deal 23 = .ok (.iload_n 1, 1) := by decide +kernel
theorem dX7_deal_24 : decode cX7_deal 24 = .ok (.if_icmp .ge 27, 3) := by decide +kernel
theorem dX7_deal_27 : decode cX7_deal 27 = .ok (.aload_n 0, 1) := by decide +kernel
theorem dX7_deal_28 : decode cX7_deal 28 = .ok (.getfield 7, 3) := by decide +kernel
theorem dX7_deal_31 : decode cX7_deal 31 = .ok (.bipush 90, 2) := by decide +kernel
theorem dX7_deal_33 : decode cX7_deal 33 = .ok (.iload_n 2, 1) := by decide +kernel
theorem dX7_deal_34 : decode cX7_deal 34 = .ok (.iadd, 1) := by decide +kernel
theorem dX7_deal_35 : decode cX7_deal 35 = .ok (.aload_n 0, 1) := by decide +kernel
theorem dX7_deal_36 : decode cX7_deal 36 = .ok (.getfield 16, 3) := by decide +kernel
theorem dX7_deal_39 : decode cX7_deal 39 = .ok (.iload_n 2, 1) := by decide +kernel
theorem dX7_deal_40 : decode cX7_deal 40 = .ok (.iaload, 1) := by decide +kernel
theorem dX7_deal_41 : decode cX7_deal 41 = .ok (.invokestatic 58, 3) := by decide +kernel
theorem dX7_deal_44 : decode cX7_deal 44 = .ok (.iastore, 1) := by decide +kernel
theorem dX7_deal_45 : decode cX7_deal 45 = .ok (.iinc 2 1, 3) := by decide +kernel
theorem dX7_deal_48 : decode cX7_deal 48 = .ok (.goto (-26), 3) := by decide +kernel
theorem dX7_deal_51 : decode cX7_deal 51 = .ok (.iconst 1, 1) := by decide +kernel
theorem dX7_deal_52 : decode cX7_deal 52 = .ok (.istore_n 2, 1) := by decide +kernel
theorem dX7_deal_53 : decode cX7_deal 53 = .ok (.iload_n 2, 1) := by decide +kernel
theorem dX7_deal_54 : decode cX7_deal 54 = .ok (.bipush 7, 2) := by decide +kernel
theorem dX7_deal_56 : decode cX7_deal 56 = .ok (.if_icmp .gt 23, 3) := by decide +kernel
theorem dX7_deal_59 : decode cX7_deal 59 = .ok (.aload_n 0, 1) := by decide +kernel
theorem dX7_deal_60 : decode cX7_deal 60 = .ok (.getfield 7, 3) := by decide +kernel
theorem dX7_deal_63 : decode cX7_deal 63 = .ok (.bipush 40, 2) := by decide +kernel
theorem dX7_deal_65 : decode cX7_deal 65 = .ok (.iload_n 2, 1) := by decide +kernel
theorem dX7_deal_66 : decode cX7_deal 66 = .ok (.iadd, 1) := by decide +kernel
theorem dX7_deal_67 : decode cX7_deal 67 = .ok (.aload_n 0, 1) := by decide +kernel
theorem dX7_deal_68 : decode cX7_deal 68 = .ok (.iload_n 2, 1) := by decide +kernel
theorem dX7_deal_69 : decode cX7_deal 69 = .ok (.invokevirtual 100, 3) := by decide +kernel
theorem dX7_deal_72 : decode cX7_deal 72 = .ok (.iastore, 1) := by decide +kernel
theorem dX7_deal_73 : decode cX7_deal 73 = .ok (.iinc 2 1, 3) := by decide +kernel
theorem dX7_deal_76 : decode cX7_deal 76 = .ok (.goto (-23), 3) := by decide +kernel
theorem dX7_deal_79 : decode cX7_deal 79 = .ok (.aload_n 0, 1) := by decide +kernel
theorem dX7_deal_80 : decode cX7_deal 80 = .ok (.getfield 7, 3) := by decide +kernel
theorem dX7_deal_83 : decode cX7_deal 83 = .ok (.bipush 89, 2) := by decide +kernel
theorem dX7_deal_85 : decode cX7_deal 85 = .ok (.aload_n 0, 1) := by decide +kernel
theorem dX7_deal_86 : decode cX7_deal 86 = .ok (.invokevirtual 110, 3) := by decide +kernel
theorem dX7_deal_89 : decode cX7_deal 89 = .ok (.ifCond .eq 13, 3) := by decide +kernel
theorem dX7_deal_92 : decode cX7_deal 92 = .ok (.aload_n 0, 1) := by decide +kernel
theorem dX7_deal_93 : decode cX7_deal 93 = .ok (.getfield 7, 3) := by decide +kernel
theorem dX7_deal_96 : decode cX7_deal 96 = .ok (.bipush 89, 2) := by decide +kernel
theorem dX7_deal_98 : decode cX7_deal 98 = .ok (.iaload, 1) := by decide +kernel
theorem dX7_deal_99 : decode cX7_deal 99 = .ok (.goto 4, 3) := by decide +kernel
theorem dX7_deal_102 : decode cX7_deal 102 = .ok (.iconst (-1), 1) := by decide +kernel
theorem dX7_deal_103 : decode cX7_deal 103 = .ok (.iastore, 1) := by decide +kernel
theorem dX7_deal_104 : decode cX7_deal 104 = .ok (.aload_n 0, 1) := by decide +kernel
theorem dX7_deal_105 : decode cX7_deal 105 = .ok (.invokevirtual 114, 3) := by decide +kernel
theorem dX7_deal_108 : decode cX7_deal 108 = .ok (.iconst 1, 1) := by decide +kernel
theorem dX7_deal_109 : decode cX7_deal 109 = .ok (.ireturn, 1) := by decide +kernel
set_option maxRecDepth 20000 in
theorem ggX7_forget_X7_having : GoodIn wsX7_forget wsX7_having := goodIn_r _ [6, 7, 8, 9, 5, 10, 1, 14, 15, 16, 17, 18, 19, 20, 21, 22] (by decide +kernel) (by decide +kernel)
set_option maxRecDepth 20000 in
theorem gX7_forget_X7_having : GoodIn wsX7_forget (wsV RX7 117 RX7 yX7_having wsX7_having) := goodIn_app (goodIn_of _ (by decide +kernel)) ggX7_forget_X7_having
set_option maxRecDepth 20000 in
theorem ggX7_forget_X7_bits : GoodIn wsX7_forget wsX7_bits := goodIn_r _ [13] (by decide +kernel) (by decide +kernel)
set_option maxRecDepth 20000 in
theorem gX7_forget_X7_bits : GoodIn wsX7_forget (va_wsS RX7 120 yX7_bits wsX7_bits) := goodIn_app (goodIn_of _ (by decide +kernel)) ggX7_forget_X7_bits
theorem dX7_forget_0 : decode cX7_forget 0 = .ok (.aload_n 0, 1) := by decide +kernel
theorem dX7_forget_1 : decode cX7_forget 1 = .ok (.getfield 7, 3) := by decide +kernel
theorem dX7_forget_4 : decode cX7_forget 4 = .ok (.bipush 40, 2) := by decide +kernel
theorem dX7_forget_6 : decode cX7_forget 6 = .ok (.iload_n 1, 1) := by decide +kernel
theorem dX7_forget_7 : decode cX7_forget 7 = .ok (.iadd, 1) := by decide +kernel
theorem dX7_forget_8 : decode cX7_forget 8 = .ok (.bipush (-6), 2) := by decide +kernel
theorem dX7_forget_10 : decode cX7_forget 10 = .ok (.iastore, 1) := by decide +kernel
theorem dX7_forget_11 : decode cX7_forget 11 = .ok (.aload_n 0, 1) := by decide +kernel
theorem dX7_forget_12 : decode cX7_forget 12 = .ok (.invokevirtual 117, 3) := by decide +kernel
theorem dX7_forget_15 : decode cX7_forget 15 = .ok (.invokestatic 120, 3) := by decide +kernel
theorem dX7_forget_18 : decode cX7_forget 18 = .ok (.ireturn, 1) := by decide +kernel
set_option maxRecDepth 20000 in
theorem ggX7_honest_X7_figure : GoodIn wsX7_honest wsX7_figure := goodIn_r _ [7, 8, 37, 38, 39, 40, 41, 42, 43, 44, 45] (by decide +kernel) (by decide +kernel)
set_option maxRecDepth 20000 in
theorem gX7_honest_X7_figure : GoodIn wsX7_honest (wsV RX7 75 RX7 yX7_figure wsX7_figure) := goodIn_app (goodIn_of _ (by decide +kernel)) ggX7_honest_X7_figure
set_option maxRecDepth 20000 in
theorem ggX7_honest_X7_hasShare : GoodIn wsX7_honest wsX7_hasShare := goodIn_r _ [12, 2, 37, 38, 39, 40, 41, 42, 43, 44, 45] (by decide +kernel) (by decide +kernel)
set_option maxRecDepth 20000 in
theorem gX7_honest_X7_hasShare : GoodIn wsX7_honest (wsV RX7 61 RX7 yX7_hasShare wsX7_hasShare) := goodIn_app (goodIn_of _ (by decide +kernel)) ggX7_honest_X7_hasShare
set_option maxRecDepth 20000 in
theorem ggX7_honest_X7_told : GoodIn wsX7_honest wsX7_told := goodIn_r _ [16, 2, 17, 18, 19, 6, 20, 21, 22, 23, 24, 25, 26, 37, 38, 39, 40, 41, 42, 43, 44, 45] (by decide +kernel) (by decide +kernel)
set_option maxRecDepth 20000 in
theorem gX7_honest_X7_told : GoodIn wsX7_honest (wsV RX7 64 RX7 yX7_told wsX7_told) := goodIn_app (goodIn_of _ (by decide +kernel)) ggX7_honest_X7_told
set_option maxRecDepth 20000 in
theorem ggX7_honest_X7_isFit : GoodIn wsX7_honest wsX7_isFit := goodIn_r _ [30, 2, 31, 32, 6, 33, 34, 35, 36, 37, 38, 39, 40, 41, 42, 43, 44, 45] (by decide +kernel) (by decide +kernel)
set_option maxRecDepth 20000 in
theorem gX7_honest_X7_isFit : GoodIn wsX7_honest (wsV RX7 67 RX7 yX7_isFit wsX7_isFit) := goodIn_app (goodIn_of _ (by decide +kernel)) ggX7_honest_X7_isFit
theorem dX7_honest_0 : decode cX7_honest 0 = .ok (.iconst 0, 1) := by decide +kernel
theorem dX7_honest_1 : decode cX7_honest 1 = .ok (.istore_n 2, 1) := by decide +kernel
theorem dX7_honest_2 : decode cX7_honest 2 = .ok (.iload_n 1, 1) := by decide +kernel
theorem dX7_honest_3 : decode cX7_honest 3 = .ok (.istore_n 3, 1) := by decide +kernel
theorem dX7_honest_4 : decode cX7_honest 4 = .ok (.iload_n 3, 1) := by decide +kernel
theorem dX7_honest_5 : decode cX7_honest 5 = .ok (.aload_n 0, 1) := by decide +kernel
theorem dX7_honest_6 : decode cX7_honest 6 = .ok (.getfield 71, 3) := by decide +kernel
theorem dX7_honest_9 : decode cX7_honest 9 = .ok (.if_icmp .ge 79, 3) := by decide +kernel
theorem dX7_honest_12 : decode cX7_honest 12 = .ok (.aload_n 0, 1) := by decide +kernel
theorem dX7_honest_13 : decode cX7_honest 13 = .ok (.iload_n 3, 1) := by decide +kernel
theorem dX7_honest_14 : decode cX7_honest 14 = .ok (.invokevirtual 75, 3) := by decide +kernel
theorem dX7_honest_17 : decode cX7_honest 17 = .ok (.istore 4, 2) := by decide +kernel
theorem dX7_honest_19 : decode cX7_honest 19 = .ok (.aload_n 0, 1) := by decide +kernel
theorem dX7_honest_20 : decode cX7_honest 20 = .ok (.iload 4, 2) := by decide +kernel
theorem dX7_honest_22 : decode cX7_honest 22 = .ok (.invokevirtual 61, 3) := by decide +kernel
theorem dX7_honest_25 : decode cX7_honest 25 = .ok (.ifCond .eq 57, 3) := by decide +kernel
theorem dX7_honest_28 : decode cX7_honest 28 = .ok (.aload_n 0, 1) := by decide +kernel
theorem dX7_honest_29 : decode cX7_honest 29 = .ok (.aload_n 0, 1) := by decide +kernel
theorem dX7_honest_30 : decode cX7_honest 30 = .ok (.iload 4, 2) := by decide +kernel
theorem dX7_honest_32 : decode cX7_honest 32 = .ok (.invokevirtual 64, 3) := by decide +kernel
theorem dX7_honest_35 : decode cX7_honest 35 = .ok (.iload 4, 2) := by decide +kernel
theorem dX7_honest_37 : decode cX7_honest 37 = .ok (.invokevirtual 67, 3) := by decide +kernel
theorem dX7_honest_40 : decode cX7_honest 40 = .ok (.istore 5, 2) := by decide +kernel
theorem dX7_honest_42 : decode cX7_honest 42 = .ok (.iload_n 2, 1) := by decide +kernel
theorem dX7_honest_43 : decode cX7_honest 43 = .ok (.iload 5, 2) := by decide +kernel
theorem dX7_honest_45 : decode cX7_honest 45 = .ok (.ifCond .eq 10, 3) := by decide +kernel
theorem dX7_honest_48 : decode cX7_honest 48 = .ok (.iconst 1, 1) := by decide +kernel
theorem dX7_honest_49 : decode cX7_honest 49 = .ok (.iload 4, 2) := by decide +kernel
theorem dX7_honest_51 : decode cX7_honest 51 = .ok (.ishl, 1) := by decide +kernel
theorem dX7_honest_52 : decode cX7_honest 52 = .ok (.goto 4, 3) := by decide +kernel
theorem dX7_honest_55 : decode cX7_honest 55 = .ok (.iconst 0, 1) := by decide +kernel
theorem dX7_honest_56 : decode cX7_honest 56 = .ok (.ior, 1) := by decide +kernel
theorem dX7_honest_57 : decode cX7_honest 57 = .ok (.istore_n 2, 1) := by decide +kernel
theorem dX7_honest_58 : decode cX7_honest 58 = .ok (.aload_n 0, 1) := by decide +kernel
theorem dX7_honest_59 : decode cX7_honest 59 = .ok (.getfield 7, 3) := by decide +kernel
theorem dX7_honest_62 : decode cX7_honest 62 = .ok (.sipush 369, 3) := by decide +kernel
theorem dX7_honest_65 : decode cX7_honest 65 = .ok (.dup2, 1) := by decide +kernel
theorem dX7_honest_66 : decode cX7_honest 66 = .ok (.iaload, 1) := by decide +kernel
theorem dX7_honest_67 : decode cX7_honest 67 = .ok (.iload 5, 2) := by decide +kernel
theorem dX7_honest_69 : decode cX7_honest 69 = .ok (.ifCond .eq 7, 3) := by decide +kernel
theorem dX7_honest_72 : decode cX7_honest 72 = .ok (.iconst 0, 1) := by decide +kernel
theorem dX7_honest_73 : decode cX7_honest 73 = .ok (.goto 7, 3) := by decide +kernel
theorem dX7_honest_76 : decode cX7_honest 76 = .ok (.iconst 1, 1) := by decide +kernel
theorem dX7_honest_77 : decode cX7_honest 77 = .ok (.iload 4, 2) := by decide +kernel
theorem dX7_honest_79 : decode cX7_honest 79 = .ok (.ishl, 1) := by decide +kernel
theorem dX7_honest_80 : decode cX7_honest 80 = .ok (.ior, 1) := by decide +kernel
theorem dX7_honest_81 : decode cX7_honest 81 = .ok (.iastore, 1) := by decide +kernel
theorem dX7_honest_82 : decode cX7_honest 82 = .ok (.iinc 3 1, 3) := by decide +kernel
theorem dX7_honest_85 : decode cX7_honest 85 = .ok (.goto (-81), 3) := by decide +kernel
theorem dX7_honest_88 : decode cX7_honest 88 = .ok (.iload_n 2, 1) := by decide +kernel
theorem dX7_honest_89 : decode cX7_honest 89 = .ok (.ireturn, 1) := by decide +kernel
set_option maxRecDepth 20000 in
theorem ggX7_firstOf_X7_has : GoodIn wsX7_firstOf wsX7_has := goodIn_r _ [4] (by decide +kernel) (by decide +kernel)
set_option maxRecDepth 20000 in
theorem gX7_firstOf_X7_has : GoodIn wsX7_firstOf (va_wsS RX7 88 yX7_has wsX7_has) := goodIn_app (goodIn_of _ (by decide +kernel)) ggX7_firstOf_X7_has
set_option maxRecDepth 20000 in
theorem ggX7_firstOf_X7_bits : GoodIn wsX7_firstOf wsX7_bits := goodIn_r _ [7] (by decide +kernel) (by decide +kernel)
set_option maxRecDepth 20000 in
theorem gX7_firstOf_X7_bits : GoodIn wsX7_firstOf (va_wsS RX7 120 yX7_bits wsX7_bits) := goodIn_app (goodIn_of _ (by decide +kernel)) ggX7_firstOf_X7_bits
theorem dX7_firstOf_0 : decode cX7_firstOf 0 = .ok (.iconst 0, 1) := by decide +kernel
theorem dX7_firstOf_1 : decode cX7_firstOf 1 = .ok (.istore_n 2, 1) := by decide +kernel
theorem dX7_firstOf_2 : decode cX7_firstOf 2 = .ok (.iconst 1, 1) := by decide +kernel
theorem dX7_firstOf_3 : decode cX7_firstOf 3 = .ok (.istore_n 3, 1) := by decide +kernel
theorem dX7_firstOf_4 : decode cX7_firstOf 4 = .ok (.iload_n 3, 1) := by decide +kernel
theorem dX7_firstOf_5 : decode cX7_firstOf 5 = .ok (.bipush 7, 2) := by decide +kernel
theorem dX7_firstOf_7 : decode cX7_firstOf 7 = .ok (.if_icmp .gt 35, 3) := by decide +kernel
theorem dX7_firstOf_10 : decode cX7_firstOf 10 = .ok (.iload_n 2, 1) := by decide +kernel
theorem dX7_firstOf_11 : decode cX7_firstOf 11 = .ok (.iload_n 0, 1) := by decide +kernel
theorem dX7_firstOf_12 : decode cX7_firstOf 12 = .ok (.iload_n 3, 1) := by decide +kernel
theorem dX7_firstOf_13 : decode cX7_firstOf 13 = .ok (.invokestatic 88, 3) := by decide +kernel
theorem dX7_firstOf_16 : decode cX7_firstOf 16 = .ok (.ifCond .eq 17, 3) := by decide +kernel
theorem dX7_firstOf_19 : decode cX7_firstOf 19 = .ok (.iload_n 2, 1) := by decide +kernel
theorem dX7_firstOf_20 : decode cX7_firstOf 20 = .ok (.invokestatic 120, 3) := by decide +kernel
theorem dX7_firstOf_23 : decode cX7_firstOf 23 = .ok (.iload_n 1, 1) := by decide +kernel
theorem dX7_firstOf_24 : decode cX7_firstOf 24 = .ok (.if_icmp .ge 9, 3) := by decide +kernel
theorem dX7_firstOf_27 : decode cX7_firstOf 27 = .ok (.iconst 1, 1) := by decide +kernel
theorem dX7_firstOf_28 : decode cX7_firstOf 28 = .ok (.iload_n 3, 1) := by decide +kernel
theorem dX7_firstOf_29 : decode cX7_firstOf 29 = .ok (.ishl, 1) := by decide +kernel
theorem dX7_firstOf_30 : decode cX7_firstOf 30 = .ok (.goto 4, 3) := by decide +kernel
theorem dX7_firstOf_33 : decode cX7_firstOf 33 = .ok (.iconst 0, 1) := by decide +kernel
theorem dX7_firstOf_34 : decode cX7_firstOf 34 = .ok (.ior, 1) := by decide +kernel
theorem dX7_firstOf_35 : decode cX7_firstOf 35 = .ok (.istore_n 2, 1) := by decide +kernel
theorem dX7_firstOf_36 : decode cX7_firstOf 36 = .ok (.iinc 3 1, 3) := by decide +kernel
theorem dX7_firstOf_39 : decode cX7_firstOf 39 = .ok (.goto (-35), 3) := by decide +kernel
theorem dX7_firstOf_42 : decode cX7_firstOf 42 = .ok (.iload_n 2, 1) := by decide +kernel
theorem dX7_firstOf_43 : decode cX7_firstOf 43 = .ok (.ireturn, 1) := by decide +kernel
set_option maxRecDepth 20000 in
theorem ggX7_together_X7_has : GoodIn wsX7_together wsX7_has := goodIn_r _ [4] (by decide +kernel) (by decide +kernel)
set_option maxRecDepth 20000 in
theorem gX7_together_X7_has : GoodIn wsX7_together (va_wsS RX7 88 yX7_has wsX7_has) := goodIn_app (goodIn_of _ (by decide +kernel)) ggX7_together_X7_has
set_option maxRecDepth 20000 in
theorem ggX7_together_X7_told : GoodIn wsX7_together wsX7_told := goodIn_r _ [8, 9, 10, 11, 12, 3, 13, 14, 15, 16, 17, 18, 19, 29, 30, 31, 32, 33, 34, 35, 36, 37] (by decide +kernel) (by decide +kernel)
set_option maxRecDepth 20000 in
theorem gX7_together_X7_told : GoodIn wsX7_together (wsV RX7 64 RX7 yX7_told wsX7_told) := goodIn_app (goodIn_of _ (by decide +kernel)) ggX7_together_X7_told
set_option maxRecDepth 20000 in
theorem ggX7_together_X7_weight : GoodIn wsX7_together wsX7_weight := goodIn_r _ [22, 1, 2, 3, 4, 17, 18, 19, 23, 24, 25, 26, 27, 28] (by decide +kernel) (by decide +kernel)
set_option maxRecDepth 20000 in
theorem gX7_together_X7_weight : GoodIn wsX7_together (va_wsS RX7 94 yX7_weight wsX7_weight) := goodIn_app (goodIn_of _ (by decide +kernel)) ggX7_together_X7_weight
theorem dX7_together_0 : decode cX7_together 0 = .ok (.iconst 0, 1) := by decide +kernel
theorem dX7_together_1 : decode cX7_together 1 = .ok (.istore_n 3, 1) := by decide +kernel
theorem dX7_together_2 : decode cX7_together 2 = .ok (.iconst 1, 1) := by decide +kernel
theorem dX7_together_3 : decode cX7_together 3 = .ok (.istore 4, 2) := by decide +kernel
theorem dX7_together_5 : decode cX7_together 5 = .ok (.iload 4, 2) := by decide +kernel
theorem dX7_together_7 : decode cX7_together 7 = .ok (.bipush 7, 2) := by decide +kernel
theorem dX7_together_9 : decode cX7_together 9 = .ok (.if_icmp .gt 39, 3) := by decide +kernel
theorem dX7_together_12 : decode cX7_together 12 = .ok (.iload_n 3, 1) := by decide +kernel
theorem dX7_together_13 : decode cX7_together 13 = .ok (.iload_n 1, 1) := by decide +kernel
theorem dX7_together_14 : decode cX7_together 14 = .ok (.iload 4, 2) := by decide +kernel
theorem dX7_together_16 : decode cX7_together 16 = .ok (.invokestatic 88, 3) := by decide +kernel
theorem dX7_together_19 : decode cX7_together 19 = .ok (.ifCond .eq 20, 3) := by decide +kernel
theorem dX7_together_22 : decode cX7_together 22 = .ok (.aload_n 0, 1) := by decide +kernel
theorem dX7_together_23 : decode cX7_together 23 = .ok (.iload 4, 2) := by decide +kernel
theorem dX7_together_25 : decode cX7_together 25 = .ok (.invokevirtual 64, 3) := by decide +kernel
theorem dX7_together_28 : decode cX7_together 28 = .ok (.iload 4, 2) := by decide +kernel
theorem dX7_together_30 : decode cX7_together 30 = .ok (.iload_n 1, 1) := by decide +kernel
theorem dX7_together_31 : decode cX7_together 31 = .ok (.iload_n 2, 1) := by decide +kernel
theorem dX7_together_32 : decode cX7_together 32 = .ok (.invokestatic 94, 3) := by decide +kernel
theorem dX7_together_35 : decode cX7_together 35 = .ok (.imul, 1) := by decide +kernel
theorem dX7_together_36 : decode cX7_together 36 = .ok (.goto 4, 3) := by decide +kernel
theorem dX7_together_39 : decode cX7_together 39 = .ok (.iconst 0, 1) := by decide +kernel
theorem dX7_together_40 : decode cX7_together 40 = .ok (.iadd, 1) := by decide +kernel
theorem dX7_together_41 : decode cX7_together 41 = .ok (.istore_n 3, 1) := by decide +kernel
theorem dX7_together_42 : decode cX7_together 42 = .ok (.iinc 4 1, 3) := by decide +kernel
theorem dX7_together_45 : decode cX7_together 45 = .ok (.goto (-40), 3) := by decide +kernel
theorem dX7_together_48 : decode cX7_together 48 = .ok (.iload_n 3, 1) := by decide +kernel
theorem dX7_together_49 : decode cX7_together 49 = .ok (.bipush 23, 2) := by decide +kernel
theorem dX7_together_51 : decode cX7_together 51 = .ok (.irem, 1) := by decide +kernel
theorem dX7_together_52 : decode cX7_together 52 = .ok (.ireturn, 1) := by decide +kernel
set_option maxRecDepth 20000 in
theorem ggX7_open_X7_honest : GoodIn wsX7_open wsX7_honest := goodIn_r _ [6, 7, 1, 8, 9, 10, 5, 11, 12, 13, 14, 15, 16, 17, 18, 19, 20, 21, 22, 23, 24, 25, 26, 27, 28, 29, 30, 31, 32, 33, 34, 35, 36, 37, 38, 39, 40, 60, 61, 62, 63, 64, 65, 66, 67, 68] (by decide +kernel) (by decide +kernel)
set_option maxRecDepth 20000 in
theorem gX7_open_X7_honest : GoodIn wsX7_open (wsV RX7 123 RX7 yX7_honest wsX7_honest) := goodIn_app (goodIn_of _ (by decide +kernel)) ggX7_open_X7_honest
set_option maxRecDepth 20000 in
theorem ggX7_open_X7_bits : GoodIn wsX7_open wsX7_bits := goodIn_r _ [43] (by decide +kernel) (by decide +kernel)
set_option maxRecDepth 20000 in
theorem gX7_open_X7_bits : GoodIn wsX7_open (va_wsS RX7 120 yX7_bits wsX7_bits) := goodIn_app (goodIn_of _ (by decide +kernel)) ggX7_open_X7_bits
set_option maxRecDepth 20000 in
theorem ggX7_open_X7_firstOf : GoodIn wsX7_open wsX7_firstOf := goodIn_r _ [46, 47, 48, 5, 49, 41, 42, 43] (by decide +kernel) (by decide +kernel)
set_option maxRecDepth 20000 in
theorem gX7_open_X7_firstOf : GoodIn wsX7_open (va_wsS RX7 126 yX7_firstOf wsX7_firstOf) := goodIn_app (goodIn_of _ (by decide +kernel)) ggX7_open_X7_firstOf
set_option maxRecDepth 20000 in
theorem ggX7_open_X7_together : GoodIn wsX7_open wsX7_together := goodIn_r _ [53, 47, 48, 5, 49, 17, 18, 19, 20, 1, 21, 22, 23, 24, 25, 26, 27, 28, 29, 30, 54, 55, 56, 57, 58, 59, 35, 36, 37, 60, 61, 62, 63, 64, 65, 66, 67, 68] (by decide +kernel) (by decide +kernel)
set_option maxRecDepth 20000 in
theorem gX7_open_X7_together : GoodIn wsX7_open (wsV RX7 129 RX7 yX7_together wsX7_together) := goodIn_app (goodIn_of _ (by decide +kernel)) ggX7_open_X7_together
theorem dX7_open_0 : decode cX7_open 0 = .ok (.aload_n 0, 1) := by decide +kernel
theorem dX7_open_1 : decode cX7_open 1 = .ok (.iconst 1, 1) := by decide +kernel
theorem dX7_open_2 : decode cX7_open 2 = .ok (.invokevirtual 123, 3) := by decide +kernel
theorem dX7_open_5 : decode cX7_open 5 = .ok (.istore_n 1, 1) := by decide +kernel
theorem dX7_open_6 : decode cX7_open 6 = .ok (.iload_n 1, 1) := by decide +kernel
theorem dX7_open_7 : decode cX7_open 7 = .ok (.invokestatic 120, 3) := by decide +kernel
theorem dX7_open_10 : decode cX7_open 10 = .ok (.aload_n 0, 1) := by decide +kernel
theorem dX7_open_11 : decode cX7_open 11 = .ok (.getfield 7, 3) := by decide +kernel
theorem dX7_open_14 : decode cX7_open 14 = .ok (.bipush 88, 2) := by decide +kernel
theorem dX7_open_16 : decode cX7_open 16 = .ok (.iaload, 1) := by decide +kernel
theorem dX7_open_17 : decode cX7_open 17 = .ok (.if_icmp .ge 8, 3) := by decide +kernel
theorem dX7_open_20 : decode cX7_open 20 = .ok (.bipush (-5), 2) := by decide +kernel
theorem dX7_open_22 : decode cX7_open 22 = .ok (.goto 19, 3) := by decide +kernel
theorem dX7_open_25 : decode cX7_open 25 = .ok (.aload_n 0, 1) := by decide +kernel
theorem dX7_open_26 : decode cX7_open 26 = .ok (.iload_n 1, 1) := by decide +kernel
theorem dX7_open_27 : decode cX7_open 27 = .ok (.aload_n 0, 1) := by decide +kernel
theorem dX7_open_28 : decode cX7_open 28 = .ok (.getfield 7, 3) := by decide +kernel
theorem dX7_open_31 : decode cX7_open 31 = .ok (.bipush 88, 2) := by decide +kernel
theorem dX7_open_33 : decode cX7_open 33 = .ok (.iaload, 1) := by decide +kernel
theorem dX7_open_34 : decode cX7_open 34 = .ok (.invokestatic 126, 3) := by decide +kernel
theorem dX7_open_37 : decode cX7_open 37 = .ok (.iconst 0, 1) := by decide +kernel
theorem dX7_open_38 : decode cX7_open 38 = .ok (.invokevirtual 129, 3) := by decide +kernel
theorem dX7_open_41 : decode cX7_open 41 = .ok (.ireturn, 1) := by decide +kernel
set_option maxRecDepth 20000 in
theorem ggX7_rebuild_X7_figure : GoodIn wsX7_rebuild wsX7_figure := goodIn_r _ [6, 7, 60, 61, 62, 63, 64, 65, 66, 67, 68] (by decide +kernel) (by decide +kernel)
set_option maxRecDepth 20000 in
theorem gX7_rebuild_X7_figure : GoodIn wsX7_rebuild (wsV RX7 75 RX7 yX7_figure wsX7_figure) := goodIn_app (goodIn_of _ (by decide +kernel)) ggX7_rebuild_X7_figure
set_option maxRecDepth 20000 in
theorem ggX7_rebuild_X7_hasShare : GoodIn wsX7_rebuild wsX7_hasShare := goodIn_r _ [11, 1, 60, 61, 62, 63, 64, 65, 66, 67, 68] (by decide +kernel) (by decide +kernel)
set_option maxRecDepth 20000 in
theorem gX7_rebuild_X7_hasShare : GoodIn wsX7_rebuild (wsV RX7 61 RX7 yX7_hasShare wsX7_hasShare) := goodIn_app (goodIn_of _ (by decide +kernel)) ggX7_rebuild_X7_hasShare
set_option maxRecDepth 20000 in
theorem ggX7_rebuild_X7_honest : GoodIn wsX7_rebuild wsX7_honest := goodIn_r _ [15, 16, 1, 2, 3, 4, 5, 6, 7, 8, 9, 10, 11, 17, 18, 19, 20, 21, 22, 23, 24, 25, 26, 27, 28, 29, 30, 31, 32, 33, 34, 35, 36, 37, 38, 39, 40, 60, 61, 62, 63, 64, 65, 66, 67, 68] (by decide +kernel) (by decide +kernel)
set_option maxRecDepth 20000 in
theorem gX7_rebuild_X7_honest : GoodIn wsX7_rebuild (wsV RX7 123 RX7 yX7_honest wsX7_honest) := goodIn_app (goodIn_of _ (by decide +kernel)) ggX7_rebuild_X7_honest
set_option maxRecDepth 20000 in
theorem ggX7_rebuild_X7_bits : GoodIn wsX7_rebuild wsX7_bits := goodIn_r _ [43] (by decide +kernel) (by decide +kernel)
set_option maxRecDepth 20000 in
theorem gX7_rebuild_X7_bits : GoodIn wsX7_rebuild (va_wsS RX7 120 yX7_bits wsX7_bits) := goodIn_app (goodIn_of _ (by decide +kernel)) ggX7_rebuild_X7_bits
set_option maxRecDepth 20000 in
theorem ggX7_rebuild_X7_firstOf : GoodIn wsX7_rebuild wsX7_firstOf := goodIn_r _ [46, 47, 48, 5, 49, 41, 42, 43] (by decide +kernel) (by decide +kernel)
set_option maxRecDepth 20000 in
theorem gX7_rebuild_X7_firstOf : GoodIn wsX7_rebuild (va_wsS RX7 126 yX7_firstOf wsX7_firstOf) := goodIn_app (goodIn_of _ (by decide +kernel)) ggX7_rebuild_X7_firstOf
set_option maxRecDepth 20000 in
theorem ggX7_rebuild_X7_together : GoodIn wsX7_rebuild wsX7_together := goodIn_r _ [53, 47, 48, 5, 49, 17, 18, 19, 20, 1, 21, 22, 23, 24, 25, 26, 27, 28, 29, 30, 54, 55, 56, 57, 58, 59, 35, 36, 37, 60, 61, 62, 63, 64, 65, 66, 67, 68] (by decide +kernel) (by decide +kernel)
set_option maxRecDepth 20000 in
theorem gX7_rebuild_X7_together : GoodIn wsX7_rebuild (wsV RX7 129 RX7 yX7_together wsX7_together) := goodIn_app (goodIn_of _ (by decide +kernel)) ggX7_rebuild_X7_together
theorem dX7_rebuild_0 : decode cX7_rebuild 0 = .ok (.aload_n 0, 1) := by decide +kernel
theorem dX7_rebuild_1 : decode cX7_rebuild 1 = .ok (.iconst 1, 1) := by decide +kernel
theorem dX7_rebuild_2 : decode cX7_rebuild 2 = .ok (.invokevirtual 75, 3) := by decide +kernel
theorem dX7_rebuild_5 : decode cX7_rebuild 5 = .ok (.istore_n 1, 1) := by decide +kernel
theorem dX7_rebuild_6 : decode cX7_rebuild 6 = .ok (.aload_n 0, 1) := by decide +kernel
theorem dX7_rebuild_7 : decode cX7_rebuild 7 = .ok (.iload_n 1, 1) := by decide +kernel
theorem dX7_rebuild_8 : decode cX7_rebuild 8 = .ok (.invokevirtual 61, 3) := by decide +kernel
theorem dX7_rebuild_11 : decode cX7_rebuild 11 = .ok (.ifCond .eq 6, 3) := by decide +kernel
theorem dX7_rebuild_14 : decode cX7_rebuild 14 = .ok (.bipush (-5), 2) := by decide +kernel
theorem dX7_rebuild_16 : decode cX7_rebuild 16 = .ok (.ireturn, 1) := by decide +kernel
theorem dX7_rebuild_17 : decode cX7_rebuild 17 = .ok (.aload_n 0, 1) := by decide +kernel
theorem dX7_rebuild_18 : decode cX7_rebuild 18 = .ok (.iconst 2, 1) := by decide +kernel
theorem dX7_rebuild_19 : decode cX7_rebuild 19 = .ok (.invokevirtual 123, 3) := by decide +kernel
theorem dX7_rebuild_22 : decode cX7_rebuild 22 = .ok (.istore_n 2, 1) := by decide +kernel
theorem dX7_rebuild_23 : decode cX7_rebuild 23 = .ok (.iload_n 2, 1) := by decide +kernel
theorem dX7_rebuild_24 : decode cX7_rebuild 24 = .ok (.invokestatic 120, 3) := by decide +kernel
theorem dX7_rebuild_27 : decode cX7_rebuild 27 = .ok (.aload_n 0, 1) := by decide +kernel
theorem dX7_rebuild_28 : decode cX7_rebuild 28 = .ok (.getfield 7, 3) := by decide +kernel
theorem dX7_rebuild_31 : decode cX7_rebuild 31 = .ok (.bipush 88, 2) := by decide +kernel
theorem dX7_rebuild_33 : decode cX7_rebuild 33 = .ok (.iaload, 1) := by decide +kernel
theorem dX7_rebuild_34 : decode cX7_rebuild 34 = .ok (.if_icmp .ge 6, 3) := by decide +kernel
theorem dX7_rebuild_37 : decode cX7_rebuild 37 = .ok (.bipush (-5), 2) := by decide +kernel
theorem dX7_rebuild_39 : decode cX7_rebuild 39 = .ok (.ireturn, 1) := by decide +kernel
theorem dX7_rebuild_40 : decode cX7_rebuild 40 = .ok (.aload_n 0, 1) := by decide +kernel
theorem dX7_rebuild_41 : decode cX7_rebuild 41 = .ok (.getfield 7, 3) := by decide +kernel
theorem dX7_rebuild_44 : decode cX7_rebuild 44 = .ok (.bipush 40, 2) := by decide +kernel
theorem dX7_rebuild_46 : decode cX7_rebuild 46 = .ok (.iload_n 1, 1) := by decide +kernel
theorem dX7_rebuild_47 : decode cX7_rebuild 47 = .ok (.iadd, 1) := by decide +kernel
theorem dX7_rebuild_48 : decode cX7_rebuild 48 = .ok (.aload_n 0, 1) := by decide +kernel
theorem dX7_rebuild_49 : decode cX7_rebuild 49 = .ok (.iload_n 2, 1) := by decide +kernel
theorem dX7_rebuild_50 : decode cX7_rebuild 50 = .ok (.aload_n 0, 1) := by decide +kernel
theorem dX7_rebuild_51 : decode cX7_rebuild 51 = .ok (.getfield 7, 3) := by decide +kernel
theorem dX7_rebuild_54 : decode cX7_rebuild 54 = .ok (.bipush 88, 2) := by decide +kernel
theorem dX7_rebuild_56 : decode cX7_rebuild 56 = .ok (.iaload, 1) := by decide +kernel
theorem dX7_rebuild_57 : decode cX7_rebuild 57 = .ok (.invokestatic 126, 3) := by decide +kernel
theorem dX7_rebuild_60 : decode cX7_rebuild 60 = .ok (.iload_n 1, 1) := by decide +kernel
theorem dX7_rebuild_61 : decode cX7_rebuild 61 = .ok (.invokevirtual 129, 3) := by decide +kernel
theorem dX7_rebuild_64 : decode cX7_rebuild 64 = .ok (.iastore, 1) := by decide +kernel
theorem dX7_rebuild_65 : decode cX7_rebuild 65 = .ok (.iconst 1, 1) := by decide +kernel
theorem dX7_rebuild_66 : decode cX7_rebuild 66 = .ok (.ireturn, 1) := by decide +kernel
set_option maxRecDepth 20000 in
theorem ggX7_steal_X7_hasShare : GoodIn wsX7_steal wsX7_hasShare := goodIn_r _ [6, 1, 7, 8, 9, 10, 11, 12, 13, 14, 15] (by decide +kernel) (by decide +kernel)
set_option maxRecDepth 20000 in
theorem gX7_steal_X7_hasShare : GoodIn wsX7_steal (wsV RX7 61 RX7 yX7_hasShare wsX7_hasShare) := goodIn_app (goodIn_of _ (by decide +kernel)) ggX7_steal_X7_hasShare
theorem dX7_steal_0 : decode cX7_steal 0 = .ok (.aload_n 0, 1) := by decide +kernel
theorem dX7_steal_1 : decode cX7_steal 1 = .ok (.iload_n 1, 1) := by decide +kernel
theorem dX7_steal_2 : decode cX7_steal 2 = .ok (.invokevirtual 61, 3) := by decide +kernel
theorem dX7_steal_5 : decode cX7_steal 5 = .ok (.ifCond .ne 6, 3) := by decide +kernel
theorem dX7_steal_8 : decode cX7_steal 8 = .ok (.bipush (-5), 2) := by decide +kernel
theorem dX7_steal_10 : decode cX7_steal 10 = .ok (.ireturn, 1) := by decide +kernel
theorem dX7_steal_11 : decode cX7_steal 11 = .ok (.sipush 295, 3) := by decide +kernel
theorem dX7_steal_14 : decode cX7_steal 14 = .ok (.iconst 3, 1) := by decide +kernel
theorem dX7_steal_15 : decode cX7_steal 15 = .ok (.aload_n 0, 1) := by decide +kernel
theorem dX7_steal_16 : decode cX7_steal 16 = .ok (.getfield 7, 3) := by decide +kernel
theorem dX7_steal_19 : decode cX7_steal 19 = .ok (.sipush 367, 3) := by decide +kernel
theorem dX7_steal_22 : decode cX7_steal 22 = .ok (.iaload, 1) := by decide +kernel
theorem dX7_steal_23 : decode cX7_steal 23 = .ok (.imul, 1) := by decide +kernel
theorem dX7_steal_24 : decode cX7_steal 24 = .ok (.iadd, 1) := by decide +kernel
theorem dX7_steal_25 : decode cX7_steal 25 = .ok (.istore_n 2, 1) := by decide +kernel
theorem dX7_steal_26 : decode cX7_steal 26 = .ok (.aload_n 0, 1) := by decide +kernel
theorem dX7_steal_27 : decode cX7_steal 27 = .ok (.getfield 7, 3) := by decide +kernel
theorem dX7_steal_30 : decode cX7_steal 30 = .ok (.iload_n 2, 1) := by decide +kernel
theorem dX7_steal_31 : decode cX7_steal 31 = .ok (.iload_n 1, 1) := by decide +kernel
theorem dX7_steal_32 : decode cX7_steal 32 = .ok (.iastore, 1) := by decide +kernel
theorem dX7_steal_33 : decode cX7_steal 33 = .ok (.aload_n 0, 1) := by decide +kernel
theorem dX7_steal_34 : decode cX7_steal 34 = .ok (.getfield 7, 3) := by decide +kernel
theorem dX7_steal_37 : decode cX7_steal 37 = .ok (.iload_n 2, 1) := by decide +kernel
theorem dX7_steal_38 : decode cX7_steal 38 = .ok (.iconst 1, 1) := by decide +kernel
theorem dX7_steal_39 : decode cX7_steal 39 = .ok (.iadd, 1) := by decide +kernel
theorem dX7_steal_40 : decode cX7_steal 40 = .ok (.aload_n 0, 1) := by decide +kernel
theorem dX7_steal_41 : decode cX7_steal 41 = .ok (.getfield 7, 3) := by decide +kernel
theorem dX7_steal_44 : decode cX7_steal 44 = .ok (.bipush 89, 2) := by decide +kernel
theorem dX7_steal_46 : decode cX7_steal 46 = .ok (.iaload, 1) := by decide +kernel
theorem dX7_steal_47 : decode cX7_steal 47 = .ok (.iastore, 1) := by decide +kernel
theorem dX7_steal_48 : decode cX7_steal 48 = .ok (.aload_n 0, 1) := by decide +kernel
theorem dX7_steal_49 : decode cX7_steal 49 = .ok (.getfield 7, 3) := by decide +kernel
theorem dX7_steal_52 : decode cX7_steal 52 = .ok (.iload_n 2, 1) := by decide +kernel
theorem dX7_steal_53 : decode cX7_steal 53 = .ok (.iconst 2, 1) := by decide +kernel
theorem dX7_steal_54 : decode cX7_steal 54 = .ok (.iadd, 1) := by decide +kernel
theorem dX7_steal_55 : decode cX7_steal 55 = .ok (.aload_n 0, 1) := by decide +kernel
theorem dX7_steal_56 : decode cX7_steal 56 = .ok (.getfield 7, 3) := by decide +kernel
theorem dX7_steal_59 : decode cX7_steal 59 = .ok (.bipush 40, 2) := by decide +kernel
theorem dX7_steal_61 : decode cX7_steal 61 = .ok (.iload_n 1, 1) := by decide +kernel
theorem dX7_steal_62 : decode cX7_steal 62 = .ok (.iadd, 1) := by decide +kernel
theorem dX7_steal_63 : decode cX7_steal 63 = .ok (.iaload, 1) := by decide +kernel
theorem dX7_steal_64 : decode cX7_steal 64 = .ok (.iastore, 1) := by decide +kernel
theorem dX7_steal_65 : decode cX7_steal 65 = .ok (.aload_n 0, 1) := by decide +kernel
theorem dX7_steal_66 : decode cX7_steal 66 = .ok (.getfield 7, 3) := by decide +kernel
theorem dX7_steal_69 : decode cX7_steal 69 = .ok (.sipush 367, 3) := by decide +kernel
theorem dX7_steal_72 : decode cX7_steal 72 = .ok (.dup2, 1) := by decide +kernel
theorem dX7_steal_73 : decode cX7_steal 73 = .ok (.iaload, 1) := by decide +kernel
theorem dX7_steal_74 : decode cX7_steal 74 = .ok (.iconst 1, 1) := by decide +kernel
theorem dX7_steal_75 : decode cX7_steal 75 = .ok (.iadd, 1) := by decide +kernel
theorem dX7_steal_76 : decode cX7_steal 76 = .ok (.iastore, 1) := by decide +kernel
theorem dX7_steal_77 : decode cX7_steal 77 = .ok (.aload_n 0, 1) := by decide +kernel
theorem dX7_steal_78 : decode cX7_steal 78 = .ok (.getfield 7, 3) := by decide +kernel
theorem dX7_steal_81 : decode cX7_steal 81 = .ok (.sipush 367, 3) := by decide +kernel
theorem dX7_steal_84 : decode cX7_steal 84 = .ok (.iaload, 1) := by decide +kernel
theorem dX7_steal_85 : decode cX7_steal 85 = .ok (.ireturn, 1) := by decide +kernel
set_option maxRecDepth 20000 in
theorem ggX7_fresh_X7_hasShare : GoodIn wsX7_fresh wsX7_hasShare := goodIn_r _ [9, 2, 60, 61, 62, 63, 64, 65, 66, 67, 68] (by decide +kernel) (by decide +kernel)
set_option maxRecDepth 20000 in
theorem gX7_fresh_X7_hasShare : GoodIn wsX7_fresh (wsV RX7 61 RX7 yX7_hasShare wsX7_hasShare) := goodIn_app (goodIn_of _ (by decide +kernel)) ggX7_fresh_X7_hasShare
set_option maxRecDepth 20000 in
theorem ggX7_fresh_X7_layPoly : GoodIn wsX7_fresh wsX7_layPoly := goodIn_r _ [13, 3, 4, 2, 60, 61, 62, 63, 64, 65, 66, 67, 68] (by decide +kernel) (by decide +kernel)
set_option maxRecDepth 20000 in
theorem gX7_fresh_X7_layPoly : GoodIn wsX7_fresh (wsV RX7 106 RX7 yX7_layPoly wsX7_layPoly) := goodIn_app (goodIn_of _ (by decide +kernel)) ggX7_fresh_X7_layPoly
set_option maxRecDepth 20000 in
theorem ggX7_fresh_X7_isStruck : GoodIn wsX7_fresh wsX7_isStruck := goodIn_r _ [17, 2, 5, 6, 7, 8, 9, 18, 19, 20, 21, 3, 4, 22, 23, 24, 25, 26, 27, 28, 29, 30, 31, 32, 33, 34, 35, 36, 37, 38, 39, 40, 41, 60, 61, 62, 63, 64, 65, 66, 67, 68] (by decide +kernel) (by decide +kernel)
set_option maxRecDepth 20000 in
theorem gX7_fresh_X7_isStruck : GoodIn wsX7_fresh (wsV RX7 132 RX7 yX7_isStruck wsX7_isStruck) := goodIn_app (goodIn_of _ (by decide +kernel)) ggX7_fresh_X7_isStruck
set_option maxRecDepth 20000 in
theorem ggX7_fresh_X7_polyAt : GoodIn wsX7_fresh wsX7_polyAt := goodIn_r _ [21, 3, 4, 22, 23, 8, 24, 60, 61, 62, 63, 64, 65, 66, 67, 68] (by decide +kernel) (by decide +kernel)
set_option maxRecDepth 20000 in
theorem gX7_fresh_X7_polyAt : GoodIn wsX7_fresh (wsV RX7 100 RX7 yX7_polyAt wsX7_polyAt) := goodIn_app (goodIn_of _ (by decide +kernel)) ggX7_fresh_X7_polyAt
set_option maxRecDepth 20000 in
theorem ggX7_fresh_X7_sealOf : GoodIn wsX7_fresh wsX7_sealOf := goodIn_r _ [41, 22, 23, 8, 24] (by decide +kernel) (by decide +kernel)
set_option maxRecDepth 20000 in
theorem gX7_fresh_X7_sealOf : GoodIn wsX7_fresh (va_wsS RX7 58 yX7_sealOf wsX7_sealOf) := goodIn_app (goodIn_of _ (by decide +kernel)) ggX7_fresh_X7_sealOf
set_option maxRecDepth 20000 in
theorem ggX7_fresh_X7_mod : GoodIn wsX7_fresh wsX7_mod := goodIn_r _ [34] (by decide +kernel) (by decide +kernel)
set_option maxRecDepth 20000 in
theorem gX7_fresh_X7_mod : GoodIn wsX7_fresh (va_wsS RX7 54 yX7_mod wsX7_mod) := goodIn_app (goodIn_of _ (by decide +kernel)) ggX7_fresh_X7_mod
set_option maxRecDepth 20000 in
theorem ggX7_fresh_X7_nextEpoch : GoodIn wsX7_fresh wsX7_nextEpoch := goodIn_r _ [45, 2, 60, 61, 62, 63, 64, 65, 66, 67, 68] (by decide +kernel) (by decide +kernel)
set_option maxRecDepth 20000 in
theorem gX7_fresh_X7_nextEpoch : GoodIn wsX7_fresh (wsV RX7 114 RX7 yX7_nextEpoch wsX7_nextEpoch) := goodIn_app (goodIn_of _ (by decide +kernel)) ggX7_fresh_X7_nextEpoch
set_option maxRecDepth 20000 in
theorem ggX7_fresh_X7_strike : GoodIn wsX7_fresh wsX7_strike := goodIn_r _ [49, 2, 50, 51, 8, 52, 60, 61, 62, 63, 64, 65, 66, 67, 68] (by decide +kernel) (by decide +kernel)
set_option maxRecDepth 20000 in
theorem gX7_fresh_X7_strike : GoodIn wsX7_fresh (wsV RX7 135 RX7 yX7_strike wsX7_strike) := goodIn_app (goodIn_of _ (by decide +kernel)) ggX7_fresh_X7_strike
set_option maxRecDepth 20000 in
theorem ggX7_fresh_X7_having : GoodIn wsX7_fresh wsX7_having := goodIn_r _ [56, 5, 6, 7, 8, 9, 2, 60, 61, 62, 63, 64, 65, 66, 67, 68] (by decide +kernel) (by decide +kernel)
set_option maxRecDepth 20000 in
theorem gX7_fresh_X7_having : GoodIn wsX7_fresh (wsV RX7 117 RX7 yX7_having wsX7_having) := goodIn_app (goodIn_of _ (by decide +kernel)) ggX7_fresh_X7_having
set_option maxRecDepth 20000 in
theorem ggX7_fresh_X7_bits : GoodIn wsX7_fresh wsX7_bits := goodIn_r _ [59] (by decide +kernel) (by decide +kernel)
set_option maxRecDepth 20000 in
theorem gX7_fresh_X7_bits : GoodIn wsX7_fresh (va_wsS RX7 120 yX7_bits wsX7_bits) := goodIn_app (goodIn_of _ (by decide +kernel)) ggX7_fresh_X7_bits
theorem dX7_fresh_0 : decode cX7_fresh 0 = .ok (.iconst 0, 1) := by decide +kernel
theorem dX7_fresh_1 : decode cX7_fresh 1 = .ok (.istore_n 1, 1) := by decide +kernel
theorem dX7_fresh_2 : decode cX7_fresh 2 = .ok (.iload_n 1, 1) := by decide +kernel
theorem dX7_fresh_3 : decode cX7_fresh 3 = .ok (.bipush 8, 2) := by decide +kernel
theorem dX7_fresh_5 : decode cX7_fresh 5 = .ok (.if_icmp .ge 16, 3) := by decide +kernel
theorem dX7_fresh_8 : decode cX7_fresh 8 = .ok (.aload_n 0, 1) := by decide +kernel
theorem dX7_fresh_9 : decode cX7_fresh 9 = .ok (.getfield 19, 3) := by decide +kernel
theorem dX7_fresh_12 : decode cX7_fresh 12 = .ok (.iload_n 1, 1) := by decide +kernel
theorem dX7_fresh_13 : decode cX7_fresh 13 = .ok (.iconst 0, 1) := by decide +kernel
theorem dX7_fresh_14 : decode cX7_fresh 14 = .ok (.iastore, 1) := by decide +kernel
theorem dX7_fresh_15 : decode cX7_fresh 15 = .ok (.iinc 1 1, 3) := by decide +kernel
theorem dX7_fresh_18 : decode cX7_fresh 18 = .ok (.goto (-16), 3) := by decide +kernel
theorem dX7_fresh_21 : decode cX7_fresh 21 = .ok (.iconst 1, 1) := by decide +kernel
theorem dX7_fresh_22 : decode cX7_fresh 22 = .ok (.istore_n 1, 1) := by decide +kernel
theorem dX7_fresh_23 : decode cX7_fresh 23 = .ok (.iload_n 1, 1) := by decide +kernel
theorem dX7_fresh_24 : decode cX7_fresh 24 = .ok (.bipush 7, 2) := by decide +kernel
theorem dX7_fresh_26 : decode cX7_fresh 26 = .ok (.if_icmp .gt 113, 3) := by decide +kernel
theorem dX7_fresh_29 : decode cX7_fresh 29 = .ok (.aload_n 0, 1) := by decide +kernel
theorem dX7_fresh_30 : decode cX7_fresh 30 = .ok (.iload_n 1, 1) := by decide +kernel
theorem dX7_fresh_31 : decode cX7_fresh 31 = .ok (.invokevirtual 61, 3) := by decide +kernel
theorem dX7_fresh_34 : decode cX7_fresh 34 = .ok (.ifCond .eq 99, 3) := by decide +kernel
theorem dX7_fresh_37 : decode cX7_fresh 37 = .ok (.aload_n 0, 1) := by decide +kernel
theorem dX7_fresh_38 : decode cX7_fresh 38 = .ok (.iload_n 1, 1) := by decide +kernel
theorem dX7_fresh_39 : decode cX7_fresh 39 = .ok (.iconst 0, 1) := by decide +kernel
theorem dX7_fresh_40 : decode cX7_fresh 40 = .ok (.aload_n 0, 1) := by decide +kernel
theorem dX7_fresh_41 : decode cX7_fresh 41 = .ok (.getfield 7, 3) := by decide +kernel
theorem dX7_fresh_44 : decode cX7_fresh 44 = .ok (.bipush 88, 2) := by decide +kernel
theorem dX7_fresh_46 : decode cX7_fresh 46 = .ok (.iaload, 1) := by decide +kernel
theorem dX7_fresh_47 : decode cX7_fresh 47 = .ok (.invokevirtual 106, 3) := by decide +kernel
theorem dX7_fresh_50 : decode cX7_fresh 50 = .ok (.aload_n 0, 1) := by decide +kernel
theorem dX7_fresh_51 : decode cX7_fresh 51 = .ok (.iload_n 1, 1) := by decide +kernel
theorem dX7_fresh_52 : decode cX7_fresh 52 = .ok (.invokevirtual 132, 3) := by decide +kernel
theorem dX7_fresh_55 : decode cX7_fresh 55 = .ok (.ifCond .ne 78, 3) := by decide +kernel
theorem dX7_fresh_58 : decode cX7_fresh 58 = .ok (.iconst 1, 1) := by decide +kernel
theorem dX7_fresh_59 : decode cX7_fresh 59 = .ok (.istore_n 2, 1) := by decide +kernel
theorem dX7_fresh_60 : decode cX7_fresh 60 = .ok (.iload_n 2, 1) := by decide +kernel
theorem dX7_fresh_61 : decode cX7_fresh 61 = .ok (.bipush 7, 2) := by decide +kernel
theorem dX7_fresh_63 : decode cX7_fresh 63 = .ok (.if_icmp .gt 23, 3) := by decide +kernel
theorem dX7_fresh_66 : decode cX7_fresh 66 = .ok (.aload_n 0, 1) := by decide +kernel
theorem dX7_fresh_67 : decode cX7_fresh 67 = .ok (.getfield 19, 3) := by decide +kernel
theorem dX7_fresh_70 : decode cX7_fresh 70 = .ok (.iload_n 2, 1) := by decide +kernel
theorem dX7_fresh_71 : decode cX7_fresh 71 = .ok (.dup2, 1) := by decide +kernel
theorem dX7_fresh_72 : decode cX7_fresh 72 = .ok (.iaload, 1) := by decide +kernel
theorem dX7_fresh_73 : decode cX7_fresh 73 = .ok (.aload_n 0, 1) := by decide +kernel
theorem dX7_fresh_74 : decode cX7_fresh 74 = .ok (.iload_n 2, 1) := by decide +kernel
theorem dX7_fresh_75 : decode cX7_fresh 75 = .ok (.invokevirtual 100, 3) := by decide +kernel
theorem dX7_fresh_78 : decode cX7_fresh 78 = .ok (.iadd, 1) := by decide +kernel
theorem dX7_fresh_79 : decode cX7_fresh 79 = .ok (.iastore, 1) := by decide +kernel
theorem dX7_fresh_80 : decode cX7_fresh 80 = .ok (.iinc 2 1, 3) := by decide +kernel
theorem dX7_fresh_83 : decode cX7_fresh 83 = .ok (.goto (-23), 3) := by decide +kernel
theorem dX7_fresh_86 : decode cX7_fresh 86 = .ok (.iconst 0, 1) := by decide +kernel
theorem dX7_fresh_87 : decode cX7_fresh 87 = .ok (.istore_n 2, 1) := by decide +kernel
theorem dX7_fresh_88 : decode cX7_fresh 88 = .ok (.iload_n 2, 1) := by decide +kernel
theorem dX7_fresh_89 : decode cX7_fresh 89 = .ok (.aload_n 0, 1) := by decide +kernel
theorem dX7_fresh_90 : decode cX7_fresh 90 = .ok (.getfield 97, 3) := by decide +kernel
theorem dX7_fresh_93 : decode cX7_fresh 93 = .ok (.if_icmp .ge 40, 3) := by decide +kernel
theorem dX7_fresh_96 : decode cX7_fresh 96 = .ok (.aload_n 0, 1) := by decide +kernel
theorem dX7_fresh_97 : decode cX7_fresh 97 = .ok (.getfield 7, 3) := by decide +kernel
theorem dX7_fresh_100 : decode cX7_fresh 100 = .ok (.bipush 90, 2) := by decide +kernel
theorem dX7_fresh_102 : decode cX7_fresh 102 = .ok (.iload_n 2, 1) := by decide +kernel
theorem dX7_fresh_103 : decode cX7_fresh 103 = .ok (.iadd, 1) := by decide +kernel
theorem dX7_fresh_104 : decode cX7_fresh 104 = .ok (.aload_n 0, 1) := by decide +kernel
theorem dX7_fresh_105 : decode cX7_fresh 105 = .ok (.getfield 7, 3) := by decide +kernel
theorem dX7_fresh_108 : decode cX7_fresh 108 = .ok (.bipush 90, 2) := by decide +kernel
theorem dX7_fresh_110 : decode cX7_fresh 110 = .ok (.iload_n 2, 1) := by decide +kernel
theorem dX7_fresh_111 : decode cX7_fresh 111 = .ok (.iadd, 1) := by decide +kernel
theorem dX7_fresh_112 : decode cX7_fresh 112 = .ok (.iaload, 1) := by decide +kernel
theorem dX7_fresh_113 : decode cX7_fresh 113 = .ok (.aload_n 0, 1) := by decide +kernel
theorem dX7_fresh_114 : decode cX7_fresh 114 = .ok (.getfield 16, 3) := by decide +kernel
theorem dX7_fresh_117 : decode cX7_fresh 117 = .ok (.iload_n 2, 1) := by decide +kernel
theorem dX7_fresh_118 : decode cX7_fresh 118 = .ok (.iaload, 1) := by decide +kernel
theorem dX7_fresh_119 : decode cX7_fresh 119 = .ok (.invokestatic 58, 3) := by decide +kernel
theorem dX7_fresh_122 : decode cX7_fresh 122 = .ok (.imul, 1) := by decide +kernel
theorem dX7_fresh_123 : decode cX7_fresh 123 = .ok (.bipush 47, 2) := by decide +kernel
theorem dX7_fresh_125 : decode cX7_fresh 125 = .ok (.irem, 1) := by decide +kernel
theorem dX7_fresh_126 : decode cX7_fresh 126 = .ok (.iastore, 1) := by decide +kernel
theorem dX7_fresh_127 : decode cX7_fresh 127 = .ok (.iinc 2 1, 3) := by decide +kernel
theorem dX7_fresh_130 : decode cX7_fresh 130 = .ok (.goto (-42), 3) := by decide +kernel
theorem dX7_fresh_133 : decode cX7_fresh 133 = .ok (.iinc 1 1, 3) := by decide +kernel
theorem dX7_fresh_136 : decode cX7_fresh 136 = .ok (.goto (-113), 3) := by decide +kernel
theorem dX7_fresh_139 : decode cX7_fresh 139 = .ok (.iconst 1, 1) := by decide +kernel
theorem dX7_fresh_140 : decode cX7_fresh 140 = .ok (.istore_n 1, 1) := by decide +kernel
theorem dX7_fresh_141 : decode cX7_fresh 141 = .ok (.iload_n 1, 1) := by decide +kernel
theorem dX7_fresh_142 : decode cX7_fresh 142 = .ok (.bipush 7, 2) := by decide +kernel
theorem dX7_fresh_144 : decode cX7_fresh 144 = .ok (.if_icmp .gt 50, 3) := by decide +kernel
theorem dX7_fresh_147 : decode cX7_fresh 147 = .ok (.aload_n 0, 1) := by decide +kernel
theorem dX7_fresh_148 : decode cX7_fresh 148 = .ok (.getfield 7, 3) := by decide +kernel
theorem dX7_fresh_151 : decode cX7_fresh 151 = .ok (.bipush 40, 2) := by decide +kernel
theorem dX7_fresh_153 : decode cX7_fresh 153 = .ok (.iload_n 1, 1) := by decide +kernel
theorem dX7_fresh_154 : decode cX7_fresh 154 = .ok (.iadd, 1) := by decide +kernel
theorem dX7_fresh_155 : decode cX7_fresh 155 = .ok (.aload_n 0, 1) := by decide +kernel
theorem dX7_fresh_156 : decode cX7_fresh 156 = .ok (.iload_n 1, 1) := by decide +kernel
theorem dX7_fresh_157 : decode cX7_fresh 157 = .ok (.invokevirtual 61, 3) := by decide +kernel
theorem dX7_fresh_160 : decode cX7_fresh 160 = .ok (.ifCond .eq 25, 3) := by decide +kernel
theorem dX7_fresh_163 : decode cX7_fresh 163 = .ok (.aload_n 0, 1) := by decide +kernel
theorem dX7_fresh_164 : decode cX7_fresh 164 = .ok (.getfield 7, 3) := by decide +kernel
theorem dX7_fresh_167 : decode cX7_fresh 167 = .ok (.bipush 40, 2) := by decide +kernel
theorem dX7_fresh_169 : decode cX7_fresh 169 = .ok (.iload_n 1, 1) := by decide +kernel
theorem dX7_fresh_170 : decode cX7_fresh 170 = .ok (.iadd, 1) := by decide +kernel
theorem dX7_fresh_171 : decode cX7_fresh 171 = .ok (.iaload, 1) := by decide +kernel
theorem dX7_fresh_172 : decode cX7_fresh 172 = .ok (.aload_n 0, 1) := by decide +kernel
theorem dX7_fresh_173 : decode cX7_fresh 173 = .ok (.getfield 19, 3) := by decide +kernel
theorem dX7_fresh_176 : decode cX7_fresh 176 = .ok (.iload_n 1, 1) := by decide +kernel
theorem dX7_fresh_177 : decode cX7_fresh 177 = .ok (.iaload, 1) := by decide +kernel
theorem dX7_fresh_178 : decode cX7_fresh 178 = .ok (.iadd, 1) := by decide +kernel
theorem dX7_fresh_179 : decode cX7_fresh 179 = .ok (.invokestatic 54, 3) := by decide +kernel
theorem dX7_fresh_182 : decode cX7_fresh 182 = .ok (.goto 5, 3) := by decide +kernel
theorem dX7_fresh_185 : decode cX7_fresh 185 = .ok (.bipush (-6), 2) := by decide +kernel
theorem dX7_fresh_187 : decode cX7_fresh 187 = .ok (.iastore, 1) := by decide +kernel
theorem dX7_fresh_188 : decode cX7_fresh 188 = .ok (.iinc 1 1, 3) := by decide +kernel
theorem dX7_fresh_191 : decode cX7_fresh 191 = .ok (.goto (-50), 3) := by decide +kernel
theorem dX7_fresh_194 : decode cX7_fresh 194 = .ok (.aload_n 0, 1) := by decide +kernel
theorem dX7_fresh_195 : decode cX7_fresh 195 = .ok (.invokevirtual 114, 3) := by decide +kernel
theorem dX7_fresh_198 : decode cX7_fresh 198 = .ok (.aload_n 0, 1) := by decide +kernel
theorem dX7_fresh_199 : decode cX7_fresh 199 = .ok (.invokevirtual 135, 3) := by decide +kernel
theorem dX7_fresh_202 : decode cX7_fresh 202 = .ok (.aload_n 0, 1) := by decide +kernel
theorem dX7_fresh_203 : decode cX7_fresh 203 = .ok (.invokevirtual 117, 3) := by decide +kernel
theorem dX7_fresh_206 : decode cX7_fresh 206 = .ok (.invokestatic 120, 3) := by decide +kernel
theorem dX7_fresh_209 : decode cX7_fresh 209 = .ok (.ireturn, 1) := by decide +kernel
set_option maxRecDepth 20000 in
theorem ggX7_takenFor_X7_bits : GoodIn wsX7_takenFor wsX7_bits := goodIn_r _ [6] (by decide +kernel) (by decide +kernel)
set_option maxRecDepth 20000 in
theorem gX7_takenFor_X7_bits : GoodIn wsX7_takenFor (va_wsS RX7 120 yX7_bits wsX7_bits) := goodIn_app (goodIn_of _ (by decide +kernel)) ggX7_takenFor_X7_bits
set_option maxRecDepth 20000 in
theorem ggX7_takenFor_X7_figure : GoodIn wsX7_takenFor wsX7_figure := goodIn_r _ [10, 11, 58, 59, 60, 61, 62, 63, 64, 65, 66] (by decide +kernel) (by decide +kernel)
set_option maxRecDepth 20000 in
theorem gX7_takenFor_X7_figure : GoodIn wsX7_takenFor (wsV RX7 75 RX7 yX7_figure wsX7_figure) := goodIn_app (goodIn_of _ (by decide +kernel)) ggX7_takenFor_X7_figure
set_option maxRecDepth 20000 in
theorem ggX7_takenFor_X7_hasShare : GoodIn wsX7_takenFor wsX7_hasShare := goodIn_r _ [15, 2, 58, 59, 60, 61, 62, 63, 64, 65, 66] (by decide +kernel) (by decide +kernel)
set_option maxRecDepth 20000 in
theorem gX7_takenFor_X7_hasShare : GoodIn wsX7_takenFor (wsV RX7 61 RX7 yX7_hasShare wsX7_hasShare) := goodIn_app (goodIn_of _ (by decide +kernel)) ggX7_takenFor_X7_hasShare
set_option maxRecDepth 20000 in
theorem ggX7_takenFor_X7_told : GoodIn wsX7_takenFor wsX7_told := goodIn_r _ [19, 2, 20, 21, 22, 5, 23, 24, 25, 26, 27, 28, 29, 58, 59, 60, 61, 62, 63, 64, 65, 66] (by decide +kernel) (by decide +kernel)
set_option maxRecDepth 20000 in
theorem gX7_takenFor_X7_told : GoodIn wsX7_takenFor (wsV RX7 64 RX7 yX7_told wsX7_told) := goodIn_app (goodIn_of _ (by decide +kernel)) ggX7_takenFor_X7_told
set_option maxRecDepth 20000 in
theorem ggX7_takenFor_X7_isFit : GoodIn wsX7_takenFor wsX7_isFit := goodIn_r _ [33, 2, 34, 35, 5, 36, 37, 38, 39, 58, 59, 60, 61, 62, 63, 64, 65, 66] (by decide +kernel) (by decide +kernel)
set_option maxRecDepth 20000 in
theorem gX7_takenFor_X7_isFit : GoodIn wsX7_takenFor (wsV RX7 67 RX7 yX7_isFit wsX7_isFit) := goodIn_app (goodIn_of _ (by decide +kernel)) ggX7_takenFor_X7_isFit
set_option maxRecDepth 20000 in
theorem ggX7_takenFor_X7_layPoly : GoodIn wsX7_takenFor wsX7_layPoly := goodIn_r _ [43, 44, 45, 2, 58, 59, 60, 61, 62, 63, 64, 65, 66] (by decide +kernel) (by decide +kernel)
set_option maxRecDepth 20000 in
theorem gX7_takenFor_X7_layPoly : GoodIn wsX7_takenFor (wsV RX7 106 RX7 yX7_layPoly wsX7_layPoly) := goodIn_app (goodIn_of _ (by decide +kernel)) ggX7_takenFor_X7_layPoly
set_option maxRecDepth 20000 in
theorem ggX7_takenFor_X7_isStruck : GoodIn wsX7_takenFor wsX7_isStruck := goodIn_r _ [49, 2, 12, 13, 14, 5, 15, 50, 51, 52, 53, 44, 45, 34, 35, 36, 20, 21, 22, 23, 24, 25, 26, 27, 28, 29, 54, 55, 56, 57, 37, 38, 39, 58, 59, 60, 61, 62, 63, 64, 65, 66] (by decide +kernel) (by decide +kernel)
set_option maxRecDepth 20000 in
theorem gX7_takenFor_X7_isStruck : GoodIn wsX7_takenFor (wsV RX7 132 RX7 yX7_isStruck wsX7_isStruck) := goodIn_app (goodIn_of _ (by decide +kernel)) ggX7_takenFor_X7_isStruck
theorem dX7_takenFor_0 : decode cX7_takenFor 0 = .ok (.iconst 0, 1) := by decide +kernel
theorem dX7_takenFor_1 : decode cX7_takenFor 1 = .ok (.istore_n 2, 1) := by decide +kernel
theorem dX7_takenFor_2 : decode cX7_takenFor 2 = .ok (.iconst 2, 1) := by decide +kernel
theorem dX7_takenFor_3 : decode cX7_takenFor 3 = .ok (.istore_n 3, 1) := by decide +kernel
theorem dX7_takenFor_4 : decode cX7_takenFor 4 = .ok (.iload_n 3, 1) := by decide +kernel
theorem dX7_takenFor_5 : decode cX7_takenFor 5 = .ok (.aload_n 0, 1) := by decide +kernel
theorem dX7_takenFor_6 : decode cX7_takenFor 6 = .ok (.getfield 71, 3) := by decide +kernel
theorem dX7_takenFor_9 : decode cX7_takenFor 9 = .ok (.if_icmp .ge 105, 3) := by decide +kernel
theorem dX7_takenFor_12 : decode cX7_takenFor 12 = .ok (.iload_n 2, 1) := by decide +kernel
theorem dX7_takenFor_13 : decode cX7_takenFor 13 = .ok (.invokestatic 120, 3) := by decide +kernel
theorem dX7_takenFor_16 : decode cX7_takenFor 16 = .ok (.aload_n 0, 1) := by decide +kernel
theorem dX7_takenFor_17 : decode cX7_takenFor 17 = .ok (.getfield 7, 3) := by decide +kernel
theorem dX7_takenFor_20 : decode cX7_takenFor 20 = .ok (.bipush 88, 2) := by decide +kernel
theorem dX7_takenFor_22 : decode cX7_takenFor 22 = .ok (.iaload, 1) := by decide +kernel
theorem dX7_takenFor_23 : decode cX7_takenFor 23 = .ok (.if_icmp .ge 91, 3) := by decide +kernel
theorem dX7_takenFor_26 : decode cX7_takenFor 26 = .ok (.aload_n 0, 1) := by decide +kernel
theorem dX7_takenFor_27 : decode cX7_takenFor 27 = .ok (.iload_n 3, 1) := by decide +kernel
theorem dX7_takenFor_28 : decode cX7_takenFor 28 = .ok (.invokevirtual 75, 3) := by decide +kernel
theorem dX7_takenFor_31 : decode cX7_takenFor 31 = .ok (.istore 4, 2) := by decide +kernel
theorem dX7_takenFor_33 : decode cX7_takenFor 33 = .ok (.aload_n 0, 1) := by decide +kernel
theorem dX7_takenFor_34 : decode cX7_takenFor 34 = .ok (.iload 4, 2) := by decide +kernel
theorem dX7_takenFor_36 : decode cX7_takenFor 36 = .ok (.invokevirtual 61, 3) := by decide +kernel
theorem dX7_takenFor_39 : decode cX7_takenFor 39 = .ok (.ifCond .eq 69, 3) := by decide +kernel
theorem dX7_takenFor_42 : decode cX7_takenFor 42 = .ok (.aload_n 0, 1) := by decide +kernel
theorem dX7_takenFor_43 : decode cX7_takenFor 43 = .ok (.aload_n 0, 1) := by decide +kernel
theorem dX7_takenFor_44 : decode cX7_takenFor 44 = .ok (.iload 4, 2) := by decide +kernel
theorem dX7_takenFor_46 : decode cX7_takenFor 46 = .ok (.invokevirtual 64, 3) := by decide +kernel
theorem dX7_takenFor_49 : decode cX7_takenFor 49 = .ok (.iload 4, 2) := by decide +kernel
theorem dX7_takenFor_51 : decode cX7_takenFor 51 = .ok (.invokevirtual 67, 3) := by decide +kernel
theorem dX7_takenFor_54 : decode cX7_takenFor 54 = .ok (.ifCond .ne 21, 3) := by decide +kernel
theorem dX7_takenFor_57 : decode cX7_takenFor 57 = .ok (.aload_n 0, 1) := by decide +kernel
theorem dX7_takenFor_58 : decode cX7_takenFor 58 = .ok (.getfield 7, 3) := by decide +kernel
theorem dX7_takenFor_61 : decode cX7_takenFor 61 = .ok (.sipush 369, 3) := by decide +kernel
theorem dX7_takenFor_64 : decode cX7_takenFor 64 = .ok (.dup2, 1) := by decide +kernel
theorem dX7_takenFor_65 : decode cX7_takenFor 65 = .ok (.iaload, 1) := by decide +kernel
theorem dX7_takenFor_66 : decode cX7_takenFor 66 = .ok (.iconst 1, 1) := by decide +kernel
theorem dX7_takenFor_67 : decode cX7_takenFor 67 = .ok (.iload 4, 2) := by decide +kernel
theorem dX7_takenFor_69 : decode cX7_takenFor 69 = .ok (.ishl, 1) := by decide +kernel
theorem dX7_takenFor_70 : decode cX7_takenFor 70 = .ok (.ior, 1) := by decide +kernel
theorem dX7_takenFor_71 : decode cX7_takenFor 71 = .ok (.iastore, 1) := by decide +kernel
theorem dX7_takenFor_72 : decode cX7_takenFor 72 = .ok (.goto 36, 3) := by decide +kernel
theorem dX7_takenFor_75 : decode cX7_takenFor 75 = .ok (.aload_n 0, 1) := by decide +kernel
theorem dX7_takenFor_76 : decode cX7_takenFor 76 = .ok (.iload 4, 2) := by decide +kernel
theorem dX7_takenFor_78 : decode cX7_takenFor 78 = .ok (.aload_n 0, 1) := by decide +kernel
theorem dX7_takenFor_79 : decode cX7_takenFor 79 = .ok (.iload 4, 2) := by decide +kernel
theorem dX7_takenFor_81 : decode cX7_takenFor 81 = .ok (.invokevirtual 64, 3) := by decide +kernel
theorem dX7_takenFor_84 : decode cX7_takenFor 84 = .ok (.iload_n 1, 1) := by decide +kernel
theorem dX7_takenFor_85 : decode cX7_takenFor 85 = .ok (.invokevirtual 106, 3) := by decide +kernel
theorem dX7_takenFor_88 : decode cX7_takenFor 88 = .ok (.iload_n 2, 1) := by decide +kernel
theorem dX7_takenFor_89 : decode cX7_takenFor 89 = .ok (.aload_n 0, 1) := by decide +kernel
theorem dX7_takenFor_90 : decode cX7_takenFor 90 = .ok (.iload 4, 2) := by decide +kernel
theorem dX7_takenFor_92 : decode cX7_takenFor 92 = .ok (.invokevirtual 132, 3) := by decide +kernel
theorem dX7_takenFor_95 : decode cX7_takenFor 95 = .ok (.ifCond .eq 7, 3) := by decide +kernel
theorem dX7_takenFor_98 : decode cX7_takenFor 98 = .ok (.iconst 0, 1) := by decide +kernel
theorem dX7_takenFor_99 : decode cX7_takenFor 99 = .ok (.goto 7, 3) := by decide +kernel
theorem dX7_takenFor_102 : decode cX7_takenFor 102 = .ok (.iconst 1, 1) := by decide +kernel
theorem dX7_takenFor_103 : decode cX7_takenFor 103 = .ok (.iload 4, 2) := by decide +kernel
theorem dX7_takenFor_105 : decode cX7_takenFor 105 = .ok (.ishl, 1) := by decide +kernel
theorem dX7_takenFor_106 : decode cX7_takenFor 106 = .ok (.ior, 1) := by decide +kernel
theorem dX7_takenFor_107 : decode cX7_takenFor 107 = .ok (.istore_n 2, 1) := by decide +kernel
theorem dX7_takenFor_108 : decode cX7_takenFor 108 = .ok (.iinc 3 1, 3) := by decide +kernel
theorem dX7_takenFor_111 : decode cX7_takenFor 111 = .ok (.goto (-107), 3) := by decide +kernel
theorem dX7_takenFor_114 : decode cX7_takenFor 114 = .ok (.iload_n 2, 1) := by decide +kernel
theorem dX7_takenFor_115 : decode cX7_takenFor 115 = .ok (.ireturn, 1) := by decide +kernel
set_option maxRecDepth 20000 in
theorem ggX7_move_X7_takenFor : GoodIn wsX7_move wsX7_takenFor := goodIn_r _ [9, 10, 1, 11, 12, 8, 13, 14, 15, 16, 17, 18, 19, 20, 21, 22, 23, 24, 25, 26, 27, 28, 29, 30, 31, 32, 33, 34, 35, 36, 37, 38, 39, 40, 41, 42, 43, 44, 45, 46, 47, 48, 49, 50, 51, 4, 52, 53, 54, 55, 56, 57, 58, 59, 60, 61, 62, 63, 85, 86, 87, 88, 89, 90, 91, 92, 93] (by decide +kernel) (by decide +kernel)
set_option maxRecDepth 20000 in
theorem gX7_move_X7_takenFor : GoodIn wsX7_move (wsV RX7 138 RX7 yX7_takenFor wsX7_takenFor) := goodIn_app (goodIn_of _ (by decide +kernel)) ggX7_move_X7_takenFor
set_option maxRecDepth 20000 in
theorem ggX7_move_X7_bits : GoodIn wsX7_move wsX7_bits := goodIn_r _ [13] (by decide +kernel) (by decide +kernel)
set_option maxRecDepth 20000 in
theorem gX7_move_X7_bits : GoodIn wsX7_move (va_wsS RX7 120 yX7_bits wsX7_bits) := goodIn_app (goodIn_of _ (by decide +kernel)) ggX7_move_X7_bits
set_option maxRecDepth 20000 in
theorem ggX7_move_X7_has : GoodIn wsX7_move wsX7_has := goodIn_r _ [66] (by decide +kernel) (by decide +kernel)
set_option maxRecDepth 20000 in
theorem gX7_move_X7_has : GoodIn wsX7_move (va_wsS RX7 88 yX7_has wsX7_has) := goodIn_app (goodIn_of _ (by decide +kernel)) ggX7_move_X7_has
set_option maxRecDepth 20000 in
theorem ggX7_move_X7_weight : GoodIn wsX7_move wsX7_weight := goodIn_r _ [69, 64, 65, 8, 66, 34, 35, 36, 70, 71, 72, 41, 42, 43] (by decide +kernel) (by decide +kernel)
set_option maxRecDepth 20000 in
theorem gX7_move_X7_weight : GoodIn wsX7_move (va_wsS RX7 94 yX7_weight wsX7_weight) := goodIn_app (goodIn_of _ (by decide +kernel)) ggX7_move_X7_weight
set_option maxRecDepth 20000 in
theorem ggX7_move_X7_told : GoodIn wsX7_move wsX7_told := goodIn_r _ [26, 1, 27, 28, 29, 8, 30, 31, 32, 33, 34, 35, 36, 85, 86, 87, 88, 89, 90, 91, 92, 93] (by decide +kernel) (by decide +kernel)
set_option maxRecDepth 20000 in
theorem gX7_move_X7_told : GoodIn wsX7_move (wsV RX7 64 RX7 yX7_told wsX7_told) := goodIn_app (goodIn_of _ (by decide +kernel)) ggX7_move_X7_told
set_option maxRecDepth 20000 in
theorem ggX7_move_X7_layPoly : GoodIn wsX7_move wsX7_layPoly := goodIn_r _ [50, 51, 4, 1, 85, 86, 87, 88, 89, 90, 91, 92, 93] (by decide +kernel) (by decide +kernel)
set_option maxRecDepth 20000 in
theorem gX7_move_X7_layPoly : GoodIn wsX7_move (wsV RX7 106 RX7 yX7_layPoly wsX7_layPoly) := goodIn_app (goodIn_of _ (by decide +kernel)) ggX7_move_X7_layPoly
set_option maxRecDepth 20000 in
theorem ggX7_move_X7_polyAt : GoodIn wsX7_move wsX7_polyAt := goodIn_r _ [59, 51, 4, 41, 42, 8, 43, 85, 86, 87, 88, 89, 90, 91, 92, 93] (by decide +kernel) (by decide +kernel)
set_option maxRecDepth 20000 in
theorem gX7_move_X7_polyAt : GoodIn wsX7_move (wsV RX7 100 RX7 yX7_polyAt wsX7_polyAt) := goodIn_app (goodIn_of _ (by decide +kernel)) ggX7_move_X7_polyAt
set_option maxRecDepth 20000 in
theorem ggX7_move_X7_sealOf : GoodIn wsX7_move wsX7_sealOf := goodIn_r _ [46, 41, 42, 8, 43] (by decide +kernel) (by decide +kernel)
set_option maxRecDepth 20000 in
theorem gX7_move_X7_sealOf : GoodIn wsX7_move (va_wsS RX7 58 yX7_sealOf wsX7_sealOf) := goodIn_app (goodIn_of _ (by decide +kernel)) ggX7_move_X7_sealOf
set_option maxRecDepth 20000 in
theorem ggX7_move_X7_power : GoodIn wsX7_move wsX7_power := goodIn_r _ [43] (by decide +kernel) (by decide +kernel)
set_option maxRecDepth 20000 in
theorem gX7_move_X7_power : GoodIn wsX7_move (va_wsS RX7 40 yX7_power wsX7_power) := goodIn_app (goodIn_of _ (by decide +kernel)) ggX7_move_X7_power
set_option maxRecDepth 20000 in
theorem ggX7_move_X7_hasShare : GoodIn wsX7_move wsX7_hasShare := goodIn_r _ [22, 1, 85, 86, 87, 88, 89, 90, 91, 92, 93] (by decide +kernel) (by decide +kernel)
set_option maxRecDepth 20000 in
theorem gX7_move_X7_hasShare : GoodIn wsX7_move (wsV RX7 61 RX7 yX7_hasShare wsX7_hasShare) := goodIn_app (goodIn_of _ (by decide +kernel)) ggX7_move_X7_hasShare
set_option maxRecDepth 20000 in
theorem ggX7_move_X7_mod : GoodIn wsX7_move wsX7_mod := goodIn_r _ [36] (by decide +kernel) (by decide +kernel)
set_option maxRecDepth 20000 in
theorem gX7_move_X7_mod : GoodIn wsX7_move (va_wsS RX7 54 yX7_mod wsX7_mod) := goodIn_app (goodIn_of _ (by decide +kernel)) ggX7_move_X7_mod
set_option maxRecDepth 20000 in
theorem ggX7_move_X7_nextEpoch : GoodIn wsX7_move wsX7_nextEpoch := goodIn_r _ [76, 1, 85, 86, 87, 88, 89, 90, 91, 92, 93] (by decide +kernel) (by decide +kernel)
set_option maxRecDepth 20000 in
theorem gX7_move_X7_nextEpoch : GoodIn wsX7_move (wsV RX7 114 RX7 yX7_nextEpoch wsX7_nextEpoch) := goodIn_app (goodIn_of _ (by decide +kernel)) ggX7_move_X7_nextEpoch
set_option maxRecDepth 20000 in
theorem ggX7_move_X7_strike : GoodIn wsX7_move wsX7_strike := goodIn_r _ [80, 1, 64, 65, 8, 66, 85, 86, 87, 88, 89, 90, 91, 92, 93] (by decide +kernel) (by decide +kernel)
set_option maxRecDepth 20000 in
theorem gX7_move_X7_strike : GoodIn wsX7_move (wsV RX7 135 RX7 yX7_strike wsX7_strike) := goodIn_app (goodIn_of _ (by decide +kernel)) ggX7_move_X7_strike
set_option maxRecDepth 20000 in
theorem ggX7_move_X7_having : GoodIn wsX7_move wsX7_having := goodIn_r _ [84, 19, 20, 21, 8, 22, 1, 85, 86, 87, 88, 89, 90, 91, 92, 93] (by decide +kernel) (by decide +kernel)
set_option maxRecDepth 20000 in
theorem gX7_move_X7_having : GoodIn wsX7_move (wsV RX7 117 RX7 yX7_having wsX7_having) := goodIn_app (goodIn_of _ (by decide +kernel)) ggX7_move_X7_having
theorem dX7_move_0 : decode cX7_move 0 = .ok (.aload_n 0, 1) := by decide +kernel
theorem dX7_move_1 : decode cX7_move 1 = .ok (.iload_n 1, 1) := by decide +kernel
theorem dX7_move_2 : decode cX7_move 2 = .ok (.invokevirtual 138, 3) := by decide +kernel
theorem dX7_move_5 : decode cX7_move 5 = .ok (.istore_n 2, 1) := by decide +kernel
theorem dX7_move_6 : decode cX7_move 6 = .ok (.iload_n 2, 1) := by decide +kernel
theorem dX7_move_7 : decode cX7_move 7 = .ok (.invokestatic 120, 3) := by decide +kernel
theorem dX7_move_10 : decode cX7_move 10 = .ok (.aload_n 0, 1) := by decide +kernel
theorem dX7_move_11 : decode cX7_move 11 = .ok (.getfield 7, 3) := by decide +kernel
theorem dX7_move_14 : decode cX7_move 14 = .ok (.bipush 88, 2) := by decide +kernel
theorem dX7_move_16 : decode cX7_move 16 = .ok (.iaload, 1) := by decide +kernel
theorem dX7_move_17 : decode cX7_move 17 = .ok (.if_icmp .ge 6, 3) := by decide +kernel
theorem dX7_move_20 : decode cX7_move 20 = .ok (.bipush (-5), 2) := by decide +kernel
theorem dX7_move_22 : decode cX7_move 22 = .ok (.ireturn, 1) := by decide +kernel
theorem dX7_move_23 : decode cX7_move 23 = .ok (.iconst 0, 1) := by decide +kernel
theorem dX7_move_24 : decode cX7_move 24 = .ok (.istore_n 3, 1) := by decide +kernel
theorem dX7_move_25 : decode cX7_move 25 = .ok (.iload_n 3, 1) := by decide +kernel
theorem dX7_move_26 : decode cX7_move 26 = .ok (.bipush 8, 2) := by decide +kernel
theorem dX7_move_28 : decode cX7_move 28 = .ok (.if_icmp .ge 16, 3) := by decide +kernel
theorem dX7_move_31 : decode cX7_move 31 = .ok (.aload_n 0, 1) := by decide +kernel
theorem dX7_move_32 : decode cX7_move 32 = .ok (.getfield 19, 3) := by decide +kernel
theorem dX7_move_35 : decode cX7_move 35 = .ok (.iload_n 3, 1) := by decide +kernel
theorem dX7_move_36 : decode cX7_move 36 = .ok (.iconst 0, 1) := by decide +kernel
theorem dX7_move_37 : decode cX7_move 37 = .ok (.iastore, 1) := by decide +kernel
theorem dX7_move_38 : decode cX7_move 38 = .ok (.iinc 3 1, 3) := by decide +kernel
theorem dX7_move_41 : decode cX7_move 41 = .ok (.goto (-16), 3) := by decide +kernel
theorem dX7_move_44 : decode cX7_move 44 = .ok (.iconst 0, 1) := by decide +kernel
theorem dX7_move_45 : decode cX7_move 45 = .ok (.istore_n 3, 1) := by decide +kernel
theorem dX7_move_46 : decode cX7_move 46 = .ok (.iload_n 3, 1) := by decide +kernel
theorem dX7_move_47 : decode cX7_move 47 = .ok (.iload_n 1, 1) := by decide +kernel
theorem dX7_move_48 : decode cX7_move 48 = .ok (.if_icmp .ge 16, 3) := by decide +kernel
theorem dX7_move_51 : decode cX7_move 51 = .ok (.aload_n 0, 1) := by decide +kernel
theorem dX7_move_52 : decode cX7_move 52 = .ok (.getfield 22, 3) := by decide +kernel
theorem dX7_move_55 : decode cX7_move 55 = .ok (.iload_n 3, 1) := by decide +kernel
theorem dX7_move_56 : decode cX7_move 56 = .ok (.iconst 1, 1) := by decide +kernel
theorem dX7_move_57 : decode cX7_move 57 = .ok (.iastore, 1) := by decide +kernel
theorem dX7_move_58 : decode cX7_move 58 = .ok (.iinc 3 1, 3) := by decide +kernel
theorem dX7_move_61 : decode cX7_move 61 = .ok (.goto (-15), 3) := by decide +kernel
theorem dX7_move_64 : decode cX7_move 64 = .ok (.iconst 1, 1) := by decide +kernel
theorem dX7_move_65 : decode cX7_move 65 = .ok (.istore_n 3, 1) := by decide +kernel
theorem dX7_move_66 : decode cX7_move 66 = .ok (.iload_n 3, 1) := by decide +kernel
theorem dX7_move_67 : decode cX7_move 67 = .ok (.bipush 7, 2) := by decide +kernel
theorem dX7_move_69 : decode cX7_move 69 = .ok (.if_icmp .gt 121, 3) := by decide +kernel
theorem dX7_move_72 : decode cX7_move 72 = .ok (.iload_n 2, 1) := by decide +kernel
theorem dX7_move_73 : decode cX7_move 73 = .ok (.iload_n 3, 1) := by decide +kernel
theorem dX7_move_74 : decode cX7_move 74 = .ok (.invokestatic 88, 3) := by decide +kernel
theorem dX7_move_77 : decode cX7_move 77 = .ok (.ifCond .eq 107, 3) := by decide +kernel
theorem dX7_move_80 : decode cX7_move 80 = .ok (.iload_n 3, 1) := by decide +kernel
theorem dX7_move_81 : decode cX7_move 81 = .ok (.iload_n 2, 1) := by decide +kernel
theorem dX7_move_82 : decode cX7_move 82 = .ok (.iconst 0, 1) := by decide +kernel
theorem dX7_move_83 : decode cX7_move 83 = .ok (.invokestatic 94, 3) := by decide +kernel
theorem dX7_move_86 : decode cX7_move 86 = .ok (.istore 4, 2) := by decide +kernel
theorem dX7_move_88 : decode cX7_move 88 = .ok (.aload_n 0, 1) := by decide +kernel
theorem dX7_move_89 : decode cX7_move 89 = .ok (.iload_n 3, 1) := by decide +kernel
theorem dX7_move_90 : decode cX7_move 90 = .ok (.aload_n 0, 1) := by decide +kernel
theorem dX7_move_91 : decode cX7_move 91 = .ok (.iload_n 3, 1) := by decide +kernel
theorem dX7_move_92 : decode cX7_move 92 = .ok (.invokevirtual 64, 3) := by decide +kernel
theorem dX7_move_95 : decode cX7_move 95 = .ok (.iload_n 1, 1) := by decide +kernel
theorem dX7_move_96 : decode cX7_move 96 = .ok (.invokevirtual 106, 3) := by decide +kernel
theorem dX7_move_99 : decode cX7_move 99 = .ok (.iconst 1, 1) := by decide +kernel
theorem dX7_move_100 : decode cX7_move 100 = .ok (.istore 5, 2) := by decide +kernel
theorem dX7_move_102 : decode cX7_move 102 = .ok (.iload 5, 2) := by decide +kernel
theorem dX7_move_104 : decode cX7_move 104 = .ok (.bipush 7, 2) := by decide +kernel
theorem dX7_move_106 : decode cX7_move 106 = .ok (.if_icmp .gt 28, 3) := by decide +kernel
theorem dX7_move_109 : decode cX7_move 109 = .ok (.aload_n 0, 1) := by decide +kernel
theorem dX7_move_110 : decode cX7_move 110 = .ok (.getfield 19, 3) := by decide +kernel
theorem dX7_move_113 : decode cX7_move 113 = .ok (.iload 5, 2) := by decide +kernel
theorem dX7_move_115 : decode cX7_move 115 = .ok (.dup2, 1) := by decide +kernel
theorem dX7_move_116 : decode cX7_move 116 = .ok (.iaload, 1) := by decide +kernel
theorem dX7_move_117 : decode cX7_move 117 = .ok (.aload_n 0, 1) := by decide +kernel
theorem dX7_move_118 : decode cX7_move 118 = .ok (.iload 5, 2) := by decide +kernel
theorem dX7_move_120 : decode cX7_move 120 = .ok (.invokevirtual 100, 3) := by decide +kernel
theorem dX7_move_123 : decode cX7_move 123 = .ok (.iload 4, 2) := by decide +kernel
theorem dX7_move_125 : decode cX7_move 125 = .ok (.imul, 1) := by decide +kernel
theorem dX7_move_126 : decode cX7_move 126 = .ok (.iadd, 1) := by decide +kernel
theorem dX7_move_127 : decode cX7_move 127 = .ok (.iastore, 1) := by decide +kernel
theorem dX7_move_128 : decode cX7_move 128 = .ok (.iinc 5 1, 3) := by decide +kernel
theorem dX7_move_131 : decode cX7_move 131 = .ok (.goto (-29), 3) := by decide +kernel
theorem dX7_move_134 : decode cX7_move 134 = .ok (.iconst 0, 1) := by decide +kernel
theorem dX7_move_135 : decode cX7_move 135 = .ok (.istore 5, 2) := by decide +kernel
theorem dX7_move_137 : decode cX7_move 137 = .ok (.iload 5, 2) := by decide +kernel
theorem dX7_move_139 : decode cX7_move 139 = .ok (.iload_n 1, 1) := by decide +kernel
theorem dX7_move_140 : decode cX7_move 140 = .ok (.if_icmp .ge 44, 3) := by decide +kernel
theorem dX7_move_143 : decode cX7_move 143 = .ok (.aload_n 0, 1) := by decide +kernel
theorem dX7_move_144 : decode cX7_move 144 = .ok (.getfield 22, 3) := by decide +kernel
theorem dX7_move_147 : decode cX7_move 147 = .ok (.iload 5, 2) := by decide +kernel
theorem dX7_move_149 : decode cX7_move 149 = .ok (.aload_n 0, 1) := by decide +kernel
theorem dX7_move_150 : decode cX7_move 150 = .ok (.getfield 22, 3) := by decide +kernel
theorem dX7_move_153 : decode cX7_move 153 = .ok (.iload 5, 2) := by decide +kernel
theorem dX7_move_155 : decode cX7_move 155 = .ok (.iaload, 1) := by decide +kernel
theorem dX7_move_156 : decode cX7_move 156 = .ok (.aload_n 0, 1) := by decide +kernel
theorem dX7_move_157 : decode cX7_move 157 = .ok (.getfield 16, 3) := by decide +kernel
theorem dX7_move_160 : decode cX7_move 160 = .ok (.iload 5, 2) := by decide +kernel
theorem dX7_move_162 : decode cX7_move 162 = .ok (.iaload, 1) := by decide +kernel
theorem dX7_move_163 : decode cX7_move 163 = .ok (.invokestatic 58, 3) := by decide +kernel
theorem dX7_move_166 : decode cX7_move 166 = .ok (.iload 4, 2) := by decide +kernel
theorem dX7_move_168 : decode cX7_move 168 = .ok (.bipush 47, 2) := by decide +kernel
theorem dX7_move_170 : decode cX7_move 170 = .ok (.invokestatic 40, 3) := by decide +kernel
theorem dX7_move_173 : decode cX7_move 173 = .ok (.imul, 1) := by decide +kernel
theorem dX7_move_174 : decode cX7_move 174 = .ok (.bipush 47, 2) := by decide +kernel
theorem dX7_move_176 : decode cX7_move 176 = .ok (.irem, 1) := by decide +kernel
theorem dX7_move_177 : decode cX7_move 177 = .ok (.iastore, 1) := by decide +kernel
theorem dX7_move_178 : decode cX7_move 178 = .ok (.iinc 5 1, 3) := by decide +kernel
theorem dX7_move_181 : decode cX7_move 181 = .ok (.goto (-44), 3) := by decide +kernel
theorem dX7_move_184 : decode cX7_move 184 = .ok (.iinc 3 1, 3) := by decide +kernel
theorem dX7_move_187 : decode cX7_move 187 = .ok (.goto (-121), 3) := by decide +kernel
theorem dX7_move_190 : decode cX7_move 190 = .ok (.iconst 1, 1) := by decide +kernel
theorem dX7_move_191 : decode cX7_move 191 = .ok (.istore_n 3, 1) := by decide +kernel
theorem dX7_move_192 : decode cX7_move 192 = .ok (.iload_n 3, 1) := by decide +kernel
theorem dX7_move_193 : decode cX7_move 193 = .ok (.bipush 7, 2) := by decide +kernel
theorem dX7_move_195 : decode cX7_move 195 = .ok (.if_icmp .gt 40, 3) := by decide +kernel
theorem dX7_move_198 : decode cX7_move 198 = .ok (.aload_n 0, 1) := by decide +kernel
theorem dX7_move_199 : decode cX7_move 199 = .ok (.getfield 7, 3) := by decide +kernel
theorem dX7_move_202 : decode cX7_move 202 = .ok (.bipush 40, 2) := by decide +kernel
theorem dX7_move_204 : decode cX7_move 204 = .ok (.iload_n 3, 1) := by decide +kernel
theorem dX7_move_205 : decode cX7_move 205 = .ok (.iadd, 1) := by decide +kernel
theorem dX7_move_206 : decode cX7_move 206 = .ok (.aload_n 0, 1) := by decide +kernel
theorem dX7_move_207 : decode cX7_move 207 = .ok (.iload_n 3, 1) := by decide +kernel
theorem dX7_move_208 : decode cX7_move 208 = .ok (.invokevirtual 61, 3) := by decide +kernel
theorem dX7_move_211 : decode cX7_move 211 = .ok (.ifCond .eq 15, 3) := by decide +kernel
theorem dX7_move_214 : decode cX7_move 214 = .ok (.aload_n 0, 1) := by decide +kernel
theorem dX7_move_215 : decode cX7_move 215 = .ok (.getfield 19, 3) := by decide +kernel
theorem dX7_move_218 : decode cX7_move 218 = .ok (.iload_n 3, 1) := by decide +kernel
theorem dX7_move_219 : decode cX7_move 219 = .ok (.iaload, 1) := by decide +kernel
theorem dX7_move_220 : decode cX7_move 220 = .ok (.invokestatic 54, 3) := by decide +kernel
theorem dX7_move_223 : decode cX7_move 223 = .ok (.goto 5, 3) := by decide +kernel
theorem dX7_move_226 : decode cX7_move 226 = .ok (.bipush (-6), 2) := by decide +kernel
theorem dX7_move_228 : decode cX7_move 228 = .ok (.iastore, 1) := by decide +kernel
theorem dX7_move_229 : decode cX7_move 229 = .ok (.iinc 3 1, 3) := by decide +kernel
theorem dX7_move_232 : decode cX7_move 232 = .ok (.goto (-40), 3) := by decide +kernel
theorem dX7_move_235 : decode cX7_move 235 = .ok (.iconst 0, 1) := by decide +kernel
theorem dX7_move_236 : decode cX7_move 236 = .ok (.istore_n 3, 1) := by decide +kernel
theorem dX7_move_237 : decode cX7_move 237 = .ok (.iload_n 3, 1) := by decide +kernel
theorem dX7_move_238 : decode cX7_move 238 = .ok (.iload_n 1, 1) := by decide +kernel
theorem dX7_move_239 : decode cX7_move 239 = .ok (.if_icmp .ge 24, 3) := by decide +kernel
theorem dX7_move_242 : decode cX7_move 242 = .ok (.aload_n 0, 1) := by decide +kernel
theorem dX7_move_243 : decode cX7_move 243 = .ok (.getfield 7, 3) := by decide +kernel
theorem dX7_move_246 : decode cX7_move 246 = .ok (.bipush 90, 2) := by decide +kernel
theorem dX7_move_248 : decode cX7_move 248 = .ok (.iload_n 3, 1) := by decide +kernel
theorem dX7_move_249 : decode cX7_move 249 = .ok (.iadd, 1) := by decide +kernel
theorem dX7_move_250 : decode cX7_move 250 = .ok (.aload_n 0, 1) := by decide +kernel
theorem dX7_move_251 : decode cX7_move 251 = .ok (.getfield 22, 3) := by decide +kernel
theorem dX7_move_254 : decode cX7_move 254 = .ok (.iload_n 3, 1) := by decide +kernel
theorem dX7_move_255 : decode cX7_move 255 = .ok (.iaload, 1) := by decide +kernel
theorem dX7_move_256 : decode cX7_move 256 = .ok (.iastore, 1) := by decide +kernel
theorem dX7_move_257 : decode cX7_move 257 = .ok (.iinc 3 1, 3) := by decide +kernel
theorem dX7_move_260 : decode cX7_move 260 = .ok (.goto (-23), 3) := by decide +kernel
theorem dX7_move_263 : decode cX7_move 263 = .ok (.aload_n 0, 1) := by decide +kernel
theorem dX7_move_264 : decode cX7_move 264 = .ok (.getfield 7, 3) := by decide +kernel
theorem dX7_move_267 : decode cX7_move 267 = .ok (.bipush 88, 2) := by decide +kernel
theorem dX7_move_269 : decode cX7_move 269 = .ok (.iload_n 1, 1) := by decide +kernel
theorem dX7_move_270 : decode cX7_move 270 = .ok (.iastore, 1) := by decide +kernel
theorem dX7_move_271 : decode cX7_move 271 = .ok (.aload_n 0, 1) := by decide +kernel
theorem dX7_move_272 : decode cX7_move 272 = .ok (.invokevirtual 114, 3) := by decide +kernel
theorem dX7_move_275 : decode cX7_move 275 = .ok (.aload_n 0, 1) := by decide +kernel
theorem dX7_move_276 : decode cX7_move 276 = .ok (.invokevirtual 135, 3) := by decide +kernel
theorem dX7_move_279 : decode cX7_move 279 = .ok (.aload_n 0, 1) := by decide +kernel
theorem dX7_move_280 : decode cX7_move 280 = .ok (.invokevirtual 117, 3) := by decide +kernel
theorem dX7_move_283 : decode cX7_move 283 = .ok (.invokestatic 120, 3) := by decide +kernel
theorem dX7_move_286 : decode cX7_move 286 = .ok (.ireturn, 1) := by decide +kernel
set_option maxRecDepth 20000 in
theorem ggX7_done_X7_figure : GoodIn wsX7_done wsX7_figure := goodIn_r _ [5, 6, 128, 129, 130, 131, 132, 133, 134, 135, 136] (by decide +kernel) (by decide +kernel)
set_option maxRecDepth 20000 in
theorem gX7_done_X7_figure : GoodIn wsX7_done (wsV RX7 75 RX7 yX7_figure wsX7_figure) := goodIn_app (goodIn_of _ (by decide +kernel)) ggX7_done_X7_figure
set_option maxRecDepth 20000 in
theorem ggX7_done_X7_deal : GoodIn wsX7_done wsX7_deal := goodIn_r _ [10, 11, 12, 13, 14, 15, 4, 16, 17, 18, 19, 20, 21, 22, 23, 24, 25, 26, 27, 28, 29, 30, 31, 32, 33, 34, 35, 128, 129, 130, 131, 132, 133, 134, 135, 136] (by decide +kernel) (by decide +kernel)
set_option maxRecDepth 20000 in
theorem gX7_done_X7_deal : GoodIn wsX7_done (wsV RX7 141 RX7 yX7_deal wsX7_deal) := goodIn_app (goodIn_of _ (by decide +kernel)) ggX7_done_X7_deal
set_option maxRecDepth 20000 in
theorem ggX7_done_X7_forget : GoodIn wsX7_done wsX7_forget := goodIn_r _ [39, 11, 40, 41, 42, 4, 43, 44, 45, 46, 47, 48, 49, 50, 128, 129, 130, 131, 132, 133, 134, 135, 136] (by decide +kernel) (by decide +kernel)
set_option maxRecDepth 20000 in
theorem gX7_done_X7_forget : GoodIn wsX7_done (wsV RX7 144 RX7 yX7_forget wsX7_forget) := goodIn_app (goodIn_of _ (by decide +kernel)) ggX7_done_X7_forget
set_option maxRecDepth 20000 in
theorem ggX7_done_X7_open : GoodIn wsX7_done wsX7_open := goodIn_r _ [54, 11, 55, 56, 57, 4, 58, 59, 1, 2, 3, 5, 6, 44, 45, 46, 47, 60, 61, 62, 63, 64, 65, 66, 67, 68, 69, 70, 71, 72, 73, 74, 75, 76, 77, 21, 22, 23, 18, 19, 20, 48, 49, 50, 78, 79, 80, 81, 82, 83, 84, 85, 86, 87, 88, 89, 90, 91, 92, 93, 128, 129, 130, 131, 132, 133, 134, 135, 136] (by decide +kernel) (by decide +kernel)
set_option maxRecDepth 20000 in
theorem gX7_done_X7_open : GoodIn wsX7_done (wsV RX7 147 RX7 yX7_open wsX7_open) := goodIn_app (goodIn_of _ (by decide +kernel)) ggX7_done_X7_open
set_option maxRecDepth 20000 in
theorem ggX7_done_X7_rebuild : GoodIn wsX7_done wsX7_rebuild := goodIn_r _ [97, 11, 1, 2, 3, 4, 5, 6, 44, 45, 46, 47, 55, 56, 57, 58, 59, 60, 61, 62, 63, 64, 65, 66, 67, 68, 69, 70, 71, 72, 73, 74, 75, 76, 77, 21, 22, 23, 18, 19, 20, 48, 49, 50, 78, 79, 80, 81, 82, 83, 84, 85, 86, 87, 88, 89, 90, 91, 92, 93, 128, 129, 130, 131, 132, 133, 134, 135, 136] (by decide +kernel) (by decide +kernel)
set_option maxRecDepth 20000 in
theorem gX7_done_X7_rebuild : GoodIn wsX7_done (wsV RX7 150 RX7 yX7_rebuild wsX7_rebuild) := goodIn_app (goodIn_of _ (by decide +kernel)) ggX7_done_X7_rebuild
set_option maxRecDepth 20000 in
theorem ggX7_done_X7_steal : GoodIn wsX7_done wsX7_steal := goodIn_r _ [101, 11, 44, 45, 46, 4, 47, 128, 129, 130, 131, 132, 133, 134, 135, 136] (by decide +kernel) (by decide +kernel)
set_option maxRecDepth 20000 in
theorem gX7_done_X7_steal : GoodIn wsX7_done (wsV RX7 153 RX7 yX7_steal wsX7_steal) := goodIn_app (goodIn_of _ (by decide +kernel)) ggX7_done_X7_steal
set_option maxRecDepth 20000 in
theorem ggX7_done_X7_fresh : GoodIn wsX7_done wsX7_fresh := goodIn_r _ [105, 106, 11, 17, 12, 44, 45, 46, 4, 47, 13, 14, 15, 16, 107, 108, 109, 110, 24, 25, 26, 27, 21, 22, 23, 64, 65, 66, 67, 68, 69, 70, 71, 72, 73, 111, 112, 113, 114, 18, 19, 20, 32, 33, 34, 35, 115, 116, 117, 118, 81, 82, 83, 40, 41, 42, 43, 48, 49, 50, 128, 129, 130, 131, 132, 133, 134, 135, 136] (by decide +kernel) (by decide +kernel)
set_option maxRecDepth 20000 in
theorem gX7_done_X7_fresh : GoodIn wsX7_done (wsV RX7 156 RX7 yX7_fresh wsX7_fresh) := goodIn_app (goodIn_of _ (by decide +kernel)) ggX7_done_X7_fresh
set_option maxRecDepth 20000 in
theorem ggX7_done_X7_move : GoodIn wsX7_done wsX7_move := goodIn_r _ [122, 11, 106, 123, 12, 124, 125, 126, 4, 127, 59, 48, 49, 50, 1, 2, 3, 5, 6, 44, 45, 46, 47, 60, 61, 62, 63, 64, 65, 66, 67, 68, 69, 70, 71, 72, 73, 74, 75, 76, 77, 21, 22, 23, 18, 19, 20, 13, 14, 15, 16, 17, 107, 108, 109, 110, 24, 25, 26, 27, 111, 112, 113, 114, 81, 82, 83, 88, 89, 90, 91, 92, 93, 32, 33, 34, 35, 115, 116, 117, 118, 40, 41, 42, 43, 128, 129, 130, 131, 132, 133, 134, 135, 136] (by decide +kernel) (by decide +kernel)
set_option maxRecDepth 20000 in
theorem gX7_done_X7_move : GoodIn wsX7_done (wsV RX7 159 RX7 yX7_move wsX7_move) := goodIn_app (goodIn_of _ (by decide +kernel)) ggX7_done_X7_move
theorem dX7_done_0 : decode cX7_done 0 = .ok (.iload_n 1, 1) := by decide +kernel
theorem dX7_done_1 : decode cX7_done 1 = .ok (.lookupswitch 104 #[(98, 84), (100, 59), (102, 99), (111, 79), (115, 89), (119, 69)], 59) := by decide +kernel
theorem dX7_done_60 : decode cX7_done 60 = .ok (.aload_n 0, 1) := by decide +kernel
theorem dX7_done_61 : decode cX7_done 61 = .ok (.aload_n 0, 1) := by decide +kernel
theorem dX7_done_62 : decode cX7_done 62 = .ok (.iconst 1, 1) := by decide +kernel
theorem dX7_done_63 : decode cX7_done 63 = .ok (.invokevirtual 75, 3) := by decide +kernel
theorem dX7_done_66 : decode cX7_done 66 = .ok (.invokevirtual 141, 3) := by decide +kernel
theorem dX7_done_69 : decode cX7_done 69 = .ok (.ireturn, 1) := by decide +kernel
theorem dX7_done_70 : decode cX7_done 70 = .ok (.aload_n 0, 1) := by decide +kernel
theorem dX7_done_71 : decode cX7_done 71 = .ok (.aload_n 0, 1) := by decide +kernel
theorem dX7_done_72 : decode cX7_done 72 = .ok (.iconst 1, 1) := by decide +kernel
theorem dX7_done_73 : decode cX7_done 73 = .ok (.invokevirtual 75, 3) := by decide +kernel
theorem dX7_done_76 : decode cX7_done 76 = .ok (.invokevirtual 144, 3) := by decide +kernel
theorem dX7_done_79 : decode cX7_done 79 = .ok (.ireturn, 1) := by decide +kernel
theorem dX7_done_80 : decode cX7_done 80 = .ok (.aload_n 0, 1) := by decide +kernel
theorem dX7_done_81 : decode cX7_done 81 = .ok (.invokevirtual 147, 3) := by decide +kernel
theorem dX7_done_84 : decode cX7_done 84 = .ok (.ireturn, 1) := by decide +kernel
theorem dX7_done_85 : decode cX7_done 85 = .ok (.aload_n 0, 1) := by decide +kernel
theorem dX7_done_86 : decode cX7_done 86 = .ok (.invokevirtual 150, 3) := by decide +kernel
theorem dX7_done_89 : decode cX7_done 89 = .ok (.ireturn, 1) := by decide +kernel
theorem dX7_done_90 : decode cX7_done 90 = .ok (.aload_n 0, 1) := by decide +kernel
theorem dX7_done_91 : decode cX7_done 91 = .ok (.aload_n 0, 1) := by decide +kernel
theorem dX7_done_92 : decode cX7_done 92 = .ok (.iconst 1, 1) := by decide +kernel
theorem dX7_done_93 : decode cX7_done 93 = .ok (.invokevirtual 75, 3) := by decide +kernel
theorem dX7_done_96 : decode cX7_done 96 = .ok (.invokevirtual 153, 3) := by decide +kernel
theorem dX7_done_99 : decode cX7_done 99 = .ok (.ireturn, 1) := by decide +kernel
theorem dX7_done_100 : decode cX7_done 100 = .ok (.aload_n 0, 1) := by decide +kernel
theorem dX7_done_101 : decode cX7_done 101 = .ok (.invokevirtual 156, 3) := by decide +kernel
theorem dX7_done_104 : decode cX7_done 104 = .ok (.ireturn, 1) := by decide +kernel
theorem dX7_done_105 : decode cX7_done 105 = .ok (.aload_n 0, 1) := by decide +kernel
theorem dX7_done_106 : decode cX7_done 106 = .ok (.aload_n 0, 1) := by decide +kernel
theorem dX7_done_107 : decode cX7_done 107 = .ok (.iconst 1, 1) := by decide +kernel
theorem dX7_done_108 : decode cX7_done 108 = .ok (.invokevirtual 75, 3) := by decide +kernel
theorem dX7_done_111 : decode cX7_done 111 = .ok (.invokevirtual 159, 3) := by decide +kernel
theorem dX7_done_114 : decode cX7_done 114 = .ok (.ireturn, 1) := by decide +kernel
set_option maxRecDepth 20000 in
theorem ggX7_act_X7_faultNow : GoodIn wsX7_act wsX7_faultNow := goodIn_r _ [8, 3, 1, 9, 10, 7, 11, 12, 13, 14, 15, 16, 17, 18, 19, 20, 21, 22, 23, 24, 25, 149, 150, 151, 152, 153, 154, 155, 156, 157] (by decide +kernel) (by decide +kernel)
set_option maxRecDepth 20000 in
theorem gX7_act_X7_faultNow : GoodIn wsX7_act (wsV RX7 84 RX7 yX7_faultNow wsX7_faultNow) := goodIn_app (goodIn_of _ (by decide +kernel)) ggX7_act_X7_faultNow
set_option maxRecDepth 20000 in
theorem ggX7_act_X7_isDealt : GoodIn wsX7_act wsX7_isDealt := goodIn_r _ [29, 2, 149, 150, 151, 152, 153, 154, 155, 156, 157] (by decide +kernel) (by decide +kernel)
set_option maxRecDepth 20000 in
theorem gX7_act_X7_isDealt : GoodIn wsX7_act (wsV RX7 110 RX7 yX7_isDealt wsX7_isDealt) := goodIn_app (goodIn_of _ (by decide +kernel)) ggX7_act_X7_isDealt
set_option maxRecDepth 20000 in
theorem ggX7_act_X7_done : GoodIn wsX7_act wsX7_done := goodIn_r _ [33, 16, 17, 18, 7, 19, 1, 34, 35, 36, 37, 2, 38, 39, 40, 41, 42, 43, 44, 45, 46, 47, 48, 49, 50, 51, 52, 53, 26, 27, 28, 29, 54, 55, 56, 57, 58, 59, 60, 61, 62, 63, 64, 65, 66, 67, 68, 69, 70, 71, 72, 73, 74, 75, 76, 77, 78, 79, 80, 3, 81, 82, 83, 84, 85, 86, 87, 88, 89, 90, 91, 92, 93, 94, 95, 96, 97, 98, 99, 100, 101, 102, 103, 104, 105, 106, 107, 108, 109, 110, 111, 112, 113, 114, 115, 116, 117, 118, 119, 120, 121, 122, 123, 124, 125, 126, 127, 128, 129, 130, 131, 132, 133, 134, 135, 136, 137, 138, 139, 140, 141, 142, 143, 144, 145, 146, 147, 148, 149, 150, 151, 152, 153, 154, 155, 156, 157] (by decide +kernel) (by decide +kernel)
set_option maxRecDepth 20000 in
theorem gX7_act_X7_done : GoodIn wsX7_act (wsV RX7 162 RX7 yX7_done wsX7_done) := goodIn_app (goodIn_of _ (by decide +kernel)) ggX7_act_X7_done
theorem dX7_act_0 : decode cX7_act 0 = .ok (.aload_n 0, 1) := by decide +kernel
theorem dX7_act_1 : decode cX7_act 1 = .ok (.invokevirtual 84, 3) := by decide +kernel
theorem dX7_act_4 : decode cX7_act 4 = .ok (.ifCond .lt 6, 3) := by decide +kernel
theorem dX7_act_7 : decode cX7_act 7 = .ok (.bipush (-7), 2) := by decide +kernel
theorem dX7_act_9 : decode cX7_act 9 = .ok (.ireturn, 1) := by decide +kernel
theorem dX7_act_10 : decode cX7_act 10 = .ok (.aload_n 0, 1) := by decide +kernel
theorem dX7_act_11 : decode cX7_act 11 = .ok (.getfield 13, 3) := by decide +kernel
theorem dX7_act_14 : decode cX7_act 14 = .ok (.iconst 0, 1) := by decide +kernel
theorem dX7_act_15 : decode cX7_act 15 = .ok (.iaload, 1) := by decide +kernel
theorem dX7_act_16 : decode cX7_act 16 = .ok (.istore_n 1, 1) := by decide +kernel
theorem dX7_act_17 : decode cX7_act 17 = .ok (.aload_n 0, 1) := by decide +kernel
theorem dX7_act_18 : decode cX7_act 18 = .ok (.getfield 7, 3) := by decide +kernel
theorem dX7_act_21 : decode cX7_act 21 = .ok (.sipush 369, 3) := by decide +kernel
theorem dX7_act_24 : decode cX7_act 24 = .ok (.iconst 0, 1) := by decide +kernel
theorem dX7_act_25 : decode cX7_act 25 = .ok (.iastore, 1) := by decide +kernel
theorem dX7_act_26 : decode cX7_act 26 = .ok (.aload_n 0, 1) := by decide +kernel
theorem dX7_act_27 : decode cX7_act 27 = .ok (.getfield 7, 3) := by decide +kernel
theorem dX7_act_30 : decode cX7_act 30 = .ok (.sipush 370, 3) := by decide +kernel
theorem dX7_act_33 : decode cX7_act 33 = .ok (.iconst 0, 1) := by decide +kernel
theorem dX7_act_34 : decode cX7_act 34 = .ok (.iastore, 1) := by decide +kernel
theorem dX7_act_35 : decode cX7_act 35 = .ok (.iload_n 1, 1) := by decide +kernel
theorem dX7_act_36 : decode cX7_act 36 = .ok (.bipush 100, 2) := by decide +kernel
theorem dX7_act_38 : decode cX7_act 38 = .ok (.if_icmp .eq 13, 3) := by decide +kernel
theorem dX7_act_41 : decode cX7_act 41 = .ok (.aload_n 0, 1) := by decide +kernel
theorem dX7_act_42 : decode cX7_act 42 = .ok (.invokevirtual 110, 3) := by decide +kernel
theorem dX7_act_45 : decode cX7_act 45 = .ok (.ifCond .ne 6, 3) := by decide +kernel
theorem dX7_act_48 : decode cX7_act 48 = .ok (.bipush (-3), 2) := by decide +kernel
theorem dX7_act_50 : decode cX7_act 50 = .ok (.ireturn, 1) := by decide +kernel
theorem dX7_act_51 : decode cX7_act 51 = .ok (.iload_n 1, 1) := by decide +kernel
theorem dX7_act_52 : decode cX7_act 52 = .ok (.bipush 100, 2) := by decide +kernel
theorem dX7_act_54 : decode cX7_act 54 = .ok (.if_icmp .eq 15, 3) := by decide +kernel
theorem dX7_act_57 : decode cX7_act 57 = .ok (.iload_n 1, 1) := by decide +kernel
theorem dX7_act_58 : decode cX7_act 58 = .ok (.bipush 102, 2) := by decide +kernel
theorem dX7_act_60 : decode cX7_act 60 = .ok (.if_icmp .eq 9, 3) := by decide +kernel
theorem dX7_act_63 : decode cX7_act 63 = .ok (.iload_n 1, 1) := by decide +kernel
theorem dX7_act_64 : decode cX7_act 64 = .ok (.bipush 116, 2) := by decide +kernel
theorem dX7_act_66 : decode cX7_act 66 = .ok (.if_icmp .ne 20, 3) := by decide +kernel
theorem dX7_act_69 : decode cX7_act 69 = .ok (.aload_n 0, 1) := by decide +kernel
theorem dX7_act_70 : decode cX7_act 70 = .ok (.getfield 7, 3) := by decide +kernel
theorem dX7_act_73 : decode cX7_act 73 = .ok (.bipush 89, 2) := by decide +kernel
theorem dX7_act_75 : decode cX7_act 75 = .ok (.iaload, 1) := by decide +kernel
theorem dX7_act_76 : decode cX7_act 76 = .ok (.sipush 199, 3) := by decide +kernel
theorem dX7_act_79 : decode cX7_act 79 = .ok (.if_icmp .ne 7, 3) := by decide +kernel
theorem dX7_act_82 : decode cX7_act 82 = .ok (.iconst 1, 1) := by decide +kernel
theorem dX7_act_83 : decode cX7_act 83 = .ok (.goto 4, 3) := by decide +kernel
theorem dX7_act_86 : decode cX7_act 86 = .ok (.iconst 0, 1) := by decide +kernel
theorem dX7_act_87 : decode cX7_act 87 = .ok (.istore_n 2, 1) := by decide +kernel
theorem dX7_act_88 : decode cX7_act 88 = .ok (.iload_n 2, 1) := by decide +kernel
theorem dX7_act_89 : decode cX7_act 89 = .ok (.ifCond .ne 22, 3) := by decide +kernel
theorem dX7_act_92 : decode cX7_act 92 = .ok (.iload_n 1, 1) := by decide +kernel
theorem dX7_act_93 : decode cX7_act 93 = .ok (.bipush 115, 2) := by decide +kernel
theorem dX7_act_95 : decode cX7_act 95 = .ok (.if_icmp .ne 19, 3) := by decide +kernel
theorem dX7_act_98 : decode cX7_act 98 = .ok (.aload_n 0, 1) := by decide +kernel
theorem dX7_act_99 : decode cX7_act 99 = .ok (.getfield 7, 3) := by decide +kernel
theorem dX7_act_102 : decode cX7_act 102 = .ok (.sipush 367, 3) := by decide +kernel
theorem dX7_act_105 : decode cX7_act 105 = .ok (.iaload, 1) := by decide +kernel
theorem dX7_act_106 : decode cX7_act 106 = .ok (.bipush 24, 2) := by decide +kernel
theorem dX7_act_108 : decode cX7_act 108 = .ok (.if_icmp .ne 6, 3) := by decide +kernel
theorem dX7_act_111 : decode cX7_act 111 = .ok (.bipush (-4), 2) := by decide +kernel
theorem dX7_act_113 : decode cX7_act 113 = .ok (.ireturn, 1) := by decide +kernel
theorem dX7_act_114 : decode cX7_act 114 = .ok (.aload_n 0, 1) := by decide +kernel
theorem dX7_act_115 : decode cX7_act 115 = .ok (.iload_n 1, 1) := by decide +kernel
theorem dX7_act_116 : decode cX7_act 116 = .ok (.invokevirtual 162, 3) := by decide +kernel
theorem dX7_act_119 : decode cX7_act 119 = .ok (.istore_n 3, 1) := by decide +kernel
theorem dX7_act_120 : decode cX7_act 120 = .ok (.iload_n 3, 1) := by decide +kernel
theorem dX7_act_121 : decode cX7_act 121 = .ok (.ifCond .lt 20, 3) := by decide +kernel
theorem dX7_act_124 : decode cX7_act 124 = .ok (.aload_n 0, 1) := by decide +kernel
theorem dX7_act_125 : decode cX7_act 125 = .ok (.iconst 0, 1) := by decide +kernel
theorem dX7_act_126 : decode cX7_act 126 = .ok (.putfield 71, 3) := by decide +kernel
theorem dX7_act_129 : decode cX7_act 129 = .ok (.aload_n 0, 1) := by decide +kernel
theorem dX7_act_130 : decode cX7_act 130 = .ok (.getfield 7, 3) := by decide +kernel
theorem dX7_act_133 : decode cX7_act 133 = .ok (.sipush 368, 3) := by decide +kernel
theorem dX7_act_136 : decode cX7_act 136 = .ok (.dup2, 1) := by decide +kernel
theorem dX7_act_137 : decode cX7_act 137 = .ok (.iaload, 1) := by decide +kernel
theorem dX7_act_138 : decode cX7_act 138 = .ok (.iconst 1, 1) := by decide +kernel
theorem dX7_act_139 : decode cX7_act 139 = .ok (.iadd, 1) := by decide +kernel
theorem dX7_act_140 : decode cX7_act 140 = .ok (.iastore, 1) := by decide +kernel
theorem dX7_act_141 : decode cX7_act 141 = .ok (.iload_n 3, 1) := by decide +kernel
theorem dX7_act_142 : decode cX7_act 142 = .ok (.ireturn, 1) := by decide +kernel
theorem dX7_named_0 : decode cX7_named 0 = .ok (.iload_n 1, 1) := by decide +kernel
theorem dX7_named_1 : decode cX7_named 1 = .ok (.ifCond .ne 14, 3) := by decide +kernel
theorem dX7_named_4 : decode cX7_named 4 = .ok (.aload_n 0, 1) := by decide +kernel
theorem dX7_named_5 : decode cX7_named 5 = .ok (.getfield 7, 3) := by decide +kernel
theorem dX7_named_8 : decode cX7_named 8 = .ok (.sipush 369, 3) := by decide +kernel
theorem dX7_named_11 : decode cX7_named 11 = .ok (.iaload, 1) := by decide +kernel
theorem dX7_named_12 : decode cX7_named 12 = .ok (.goto 21, 3) := by decide +kernel
theorem dX7_named_15 : decode cX7_named 15 = .ok (.iload_n 1, 1) := by decide +kernel
theorem dX7_named_16 : decode cX7_named 16 = .ok (.iconst 1, 1) := by decide +kernel
theorem dX7_named_17 : decode cX7_named 17 = .ok (.if_icmp .ne 14, 3) := by decide +kernel
