theorem dX2_worldsLeft_16 : decode cX2_worldsLeft 16 = .ok (.iload_n 1, 1) := by decide +kernel
theorem dX2_worldsLeft_17 : decode cX2_worldsLeft 17 = .ok (.invokevirtual 213, 3) := by decide +kernel
theorem dX2_worldsLeft_20 : decode cX2_worldsLeft 20 = .ok (.invokestatic 125, 3) := by decide +kernel
theorem dX2_worldsLeft_23 : decode cX2_worldsLeft 23 = .ok (.istore 4, 2) := by decide +kernel
theorem dX2_worldsLeft_25 : decode cX2_worldsLeft 25 = .ok (.iload 4, 2) := by decide +kernel
theorem dX2_worldsLeft_27 : decode cX2_worldsLeft 27 = .ok (.iload_n 3, 1) := by decide +kernel
theorem dX2_worldsLeft_28 : decode cX2_worldsLeft 28 = .ok (.if_icmp .lt 19, 3) := by decide +kernel
theorem dX2_worldsLeft_31 : decode cX2_worldsLeft 31 = .ok (.aload_n 0, 1) := by decide +kernel
theorem dX2_worldsLeft_32 : decode cX2_worldsLeft 32 = .ok (.iload_n 1, 1) := by decide +kernel
theorem dX2_worldsLeft_33 : decode cX2_worldsLeft 33 = .ok (.iload_n 3, 1) := by decide +kernel
theorem dX2_worldsLeft_34 : decode cX2_worldsLeft 34 = .ok (.invokevirtual 222, 3) := by decide +kernel
theorem dX2_worldsLeft_37 : decode cX2_worldsLeft 37 = .ok (.iload_n 2, 1) := by decide +kernel
theorem dX2_worldsLeft_38 : decode cX2_worldsLeft 38 = .ok (.if_icmp .ne 7, 3) := by decide +kernel
theorem dX2_worldsLeft_41 : decode cX2_worldsLeft 41 = .ok (.iconst 1, 1) := by decide +kernel
theorem dX2_worldsLeft_42 : decode cX2_worldsLeft 42 = .ok (.goto 4, 3) := by decide +kernel
theorem dX2_worldsLeft_45 : decode cX2_worldsLeft 45 = .ok (.iconst 0, 1) := by decide +kernel
theorem dX2_worldsLeft_46 : decode cX2_worldsLeft 46 = .ok (.ireturn, 1) := by decide +kernel
theorem dX2_worldsLeft_47 : decode cX2_worldsLeft 47 = .ok (.iconst 1, 1) := by decide +kernel
theorem dX2_worldsLeft_48 : decode cX2_worldsLeft 48 = .ok (.istore 5, 2) := by decide +kernel
theorem dX2_worldsLeft_50 : decode cX2_worldsLeft 50 = .ok (.iload 4, 2) := by decide +kernel
theorem dX2_worldsLeft_52 : decode cX2_worldsLeft 52 = .ok (.iconst 1, 1) := by decide +kernel
theorem dX2_worldsLeft_53 : decode cX2_worldsLeft 53 = .ok (.iadd, 1) := by decide +kernel
theorem dX2_worldsLeft_54 : decode cX2_worldsLeft 54 = .ok (.istore 6, 2) := by decide +kernel
theorem dX2_worldsLeft_56 : decode cX2_worldsLeft 56 = .ok (.iload 6, 2) := by decide +kernel
theorem dX2_worldsLeft_58 : decode cX2_worldsLeft 58 = .ok (.iload_n 3, 1) := by decide +kernel
theorem dX2_worldsLeft_59 : decode cX2_worldsLeft 59 = .ok (.if_icmp .ge 16, 3) := by decide +kernel
theorem dX2_worldsLeft_62 : decode cX2_worldsLeft 62 = .ok (.iload 5, 2) := by decide +kernel
theorem dX2_worldsLeft_64 : decode cX2_worldsLeft 64 = .ok (.bipush 23, 2) := by decide +kernel
theorem dX2_worldsLeft_66 : decode cX2_worldsLeft 66 = .ok (.imul, 1) := by decide +kernel
theorem dX2_worldsLeft_67 : decode cX2_worldsLeft 67 = .ok (.istore 5, 2) := by decide +kernel
theorem dX2_worldsLeft_69 : decode cX2_worldsLeft 69 = .ok (.iinc 6 1, 3) := by decide +kernel
theorem dX2_worldsLeft_72 : decode cX2_worldsLeft 72 = .ok (.goto (-16), 3) := by decide +kernel
theorem dX2_worldsLeft_75 : decode cX2_worldsLeft 75 = .ok (.iload 5, 2) := by decide +kernel
theorem dX2_worldsLeft_77 : decode cX2_worldsLeft 77 = .ok (.ireturn, 1) := by decide +kernel
theorem dX3_init_0 : decode cX3_init 0 = .ok (.aload_n 0, 1) := by decide +kernel
theorem dX3_init_1 : decode cX3_init 1 = .ok (.invokespecial 3, 3) := by decide +kernel
theorem dX3_init_4 : decode cX3_init 4 = .ok (.aload_n 0, 1) := by decide +kernel
theorem dX3_init_5 : decode cX3_init 5 = .ok (.bipush 10, 2) := by decide +kernel
theorem dX3_init_7 : decode cX3_init 7 = .ok (.newarray .int, 2) := by decide +kernel
theorem dX3_init_9 : decode cX3_init 9 = .ok (.putfield 9, 3) := by decide +kernel
theorem dX3_init_12 : decode cX3_init 12 = .ok (.aload_n 0, 1) := by decide +kernel
theorem dX3_init_13 : decode cX3_init 13 = .ok (.iconst 0, 1) := by decide +kernel
theorem dX3_init_14 : decode cX3_init 14 = .ok (.putfield 15, 3) := by decide +kernel
theorem dX3_init_17 : decode cX3_init 17 = .ok (.return_, 1) := by decide +kernel
theorem dX3_append_0 : decode cX3_append 0 = .ok (.aload_n 0, 1) := by decide +kernel
theorem dX3_append_1 : decode cX3_append 1 = .ok (.getfield 15, 3) := by decide +kernel
theorem dX3_append_4 : decode cX3_append 4 = .ok (.ifCond .lt 12, 3) := by decide +kernel
theorem dX3_append_7 : decode cX3_append 7 = .ok (.aload_n 0, 1) := by decide +kernel
theorem dX3_append_8 : decode cX3_append 8 = .ok (.getfield 15, 3) := by decide +kernel
theorem dX3_append_11 : decode cX3_append 11 = .ok (.bipush 10, 2) := by decide +kernel
theorem dX3_append_13 : decode cX3_append 13 = .ok (.if_icmp .lt 5, 3) := by decide +kernel
theorem dX3_append_16 : decode cX3_append 16 = .ok (.iconst 0, 1) := by decide +kernel
theorem dX3_append_17 : decode cX3_append 17 = .ok (.ireturn, 1) := by decide +kernel
theorem dX3_append_18 : decode cX3_append 18 = .ok (.aload_n 0, 1) := by decide +kernel
theorem dX3_append_19 : decode cX3_append 19 = .ok (.getfield 9, 3) := by decide +kernel
theorem dX3_append_22 : decode cX3_append 22 = .ok (.aload_n 0, 1) := by decide +kernel
theorem dX3_append_23 : decode cX3_append 23 = .ok (.getfield 15, 3) := by decide +kernel
theorem dX3_append_26 : decode cX3_append 26 = .ok (.iload_n 1, 1) := by decide +kernel
theorem dX3_append_27 : decode cX3_append 27 = .ok (.iastore, 1) := by decide +kernel
theorem dX3_append_28 : decode cX3_append 28 = .ok (.aload_n 0, 1) := by decide +kernel
theorem dX3_append_29 : decode cX3_append 29 = .ok (.dup, 1) := by decide +kernel
theorem dX3_append_30 : decode cX3_append 30 = .ok (.getfield 15, 3) := by decide +kernel
theorem dX3_append_33 : decode cX3_append 33 = .ok (.iconst 1, 1) := by decide +kernel
theorem dX3_append_34 : decode cX3_append 34 = .ok (.iadd, 1) := by decide +kernel
theorem dX3_append_35 : decode cX3_append 35 = .ok (.putfield 15, 3) := by decide +kernel
theorem dX3_append_38 : decode cX3_append 38 = .ok (.iconst 1, 1) := by decide +kernel
theorem dX3_append_39 : decode cX3_append 39 = .ok (.ireturn, 1) := by decide +kernel
theorem dX3_signAt_0 : decode cX3_signAt 0 = .ok (.iload_n 1, 1) := by decide +kernel
theorem dX3_signAt_1 : decode cX3_signAt 1 = .ok (.ifCond .lt 26, 3) := by decide +kernel
theorem dX3_signAt_4 : decode cX3_signAt 4 = .ok (.iload_n 1, 1) := by decide +kernel
theorem dX3_signAt_5 : decode cX3_signAt 5 = .ok (.aload_n 0, 1) := by decide +kernel
theorem dX3_signAt_6 : decode cX3_signAt 6 = .ok (.getfield 15, 3) := by decide +kernel
theorem dX3_signAt_9 : decode cX3_signAt 9 = .ok (.if_icmp .ge 18, 3) := by decide +kernel
theorem dX3_signAt_12 : decode cX3_signAt 12 = .ok (.iload_n 1, 1) := by decide +kernel
theorem dX3_signAt_13 : decode cX3_signAt 13 = .ok (.bipush 10, 2) := by decide +kernel
theorem dX3_signAt_15 : decode cX3_signAt 15 = .ok (.if_icmp .ge 12, 3) := by decide +kernel
theorem dX3_signAt_18 : decode cX3_signAt 18 = .ok (.aload_n 0, 1) := by decide +kernel
theorem dX3_signAt_19 : decode cX3_signAt 19 = .ok (.getfield 9, 3) := by decide +kernel
theorem dX3_signAt_22 : decode cX3_signAt 22 = .ok (.iload_n 1, 1) := by decide +kernel
theorem dX3_signAt_23 : decode cX3_signAt 23 = .ok (.iaload, 1) := by decide +kernel
theorem dX3_signAt_24 : decode cX3_signAt 24 = .ok (.goto 4, 3) := by decide +kernel
theorem dX3_signAt_27 : decode cX3_signAt 27 = .ok (.iconst 0, 1) := by decide +kernel
theorem dX3_signAt_28 : decode cX3_signAt 28 = .ok (.ireturn, 1) := by decide +kernel
set_option maxRecDepth 20000 in
theorem ggX3_letter_X3_signAt : GoodIn wsX3_letter wsX3_signAt := goodIn_r _ [5, 6, 7, 8, 9] (by decide +kernel) (by decide +kernel)
set_option maxRecDepth 20000 in
theorem gX3_letter_X3_signAt : GoodIn wsX3_letter (wsV RX3 19 RX3 yX3_signAt wsX3_signAt) := goodIn_app (goodIn_of _ (by decide +kernel)) ggX3_letter_X3_signAt
theorem dX3_letter_0 : decode cX3_letter 0 = .ok (.aload_n 0, 1) := by decide +kernel
theorem dX3_letter_1 : decode cX3_letter 1 = .ok (.iconst 0, 1) := by decide +kernel
theorem dX3_letter_2 : decode cX3_letter 2 = .ok (.invokevirtual 19, 3) := by decide +kernel
theorem dX3_letter_5 : decode cX3_letter 5 = .ok (.ireturn, 1) := by decide +kernel
set_option maxRecDepth 20000 in
theorem ggX3_figureAt_X3_signAt : GoodIn wsX3_figureAt wsX3_signAt := goodIn_r _ [5, 6, 7, 8, 9] (by decide +kernel) (by decide +kernel)
set_option maxRecDepth 20000 in
theorem gX3_figureAt_X3_signAt : GoodIn wsX3_figureAt (wsV RX3 19 RX3 yX3_signAt wsX3_signAt) := goodIn_app (goodIn_of _ (by decide +kernel)) ggX3_figureAt_X3_signAt
theorem dX3_figureAt_0 : decode cX3_figureAt 0 = .ok (.aload_n 0, 1) := by decide +kernel
theorem dX3_figureAt_1 : decode cX3_figureAt 1 = .ok (.iload_n 1, 1) := by decide +kernel
theorem dX3_figureAt_2 : decode cX3_figureAt 2 = .ok (.invokevirtual 19, 3) := by decide +kernel
theorem dX3_figureAt_5 : decode cX3_figureAt 5 = .ok (.bipush 48, 2) := by decide +kernel
theorem dX3_figureAt_7 : decode cX3_figureAt 7 = .ok (.isub, 1) := by decide +kernel
theorem dX3_figureAt_8 : decode cX3_figureAt 8 = .ok (.ireturn, 1) := by decide +kernel
set_option maxRecDepth 20000 in
theorem ggX3_faultPlace_X3_canStand : GoodIn wsX3_faultPlace wsX3_canStand := goodIn_r _ [6, 7, 8, 9, 5, 10, 11, 12, 13, 14, 1, 15, 16, 17, 18, 19, 20, 21, 22, 23, 24, 25, 26, 27, 28, 29, 34, 35] (by decide +kernel) (by decide +kernel)
set_option maxRecDepth 20000 in
theorem gX3_faultPlace_X3_canStand : GoodIn wsX3_faultPlace (wsV RX3 23 RX3 yX3_canStand wsX3_canStand) := goodIn_app (goodIn_of _ (by decide +kernel)) ggX3_faultPlace_X3_canStand
set_option maxRecDepth 20000 in
theorem ggX3_faultPlace_X3_fewestSigns : GoodIn wsX3_faultPlace wsX3_fewestSigns := goodIn_r _ [33, 7, 8, 9, 5, 10, 11, 12, 13, 14, 1, 15, 34, 35] (by decide +kernel) (by decide +kernel)
set_option maxRecDepth 20000 in
theorem gX3_faultPlace_X3_fewestSigns : GoodIn wsX3_faultPlace (wsV RX3 27 RX3 yX3_fewestSigns wsX3_fewestSigns) := goodIn_app (goodIn_of _ (by decide +kernel)) ggX3_faultPlace_X3_fewestSigns
theorem dX3_faultPlace_0 : decode cX3_faultPlace 0 = .ok (.iconst 0, 1) := by decide +kernel
theorem dX3_faultPlace_1 : decode cX3_faultPlace 1 = .ok (.istore_n 1, 1) := by decide +kernel
theorem dX3_faultPlace_2 : decode cX3_faultPlace 2 = .ok (.iload_n 1, 1) := by decide +kernel
theorem dX3_faultPlace_3 : decode cX3_faultPlace 3 = .ok (.aload_n 0, 1) := by decide +kernel
theorem dX3_faultPlace_4 : decode cX3_faultPlace 4 = .ok (.getfield 15, 3) := by decide +kernel
theorem dX3_faultPlace_7 : decode cX3_faultPlace 7 = .ok (.if_icmp .ge 19, 3) := by decide +kernel
theorem dX3_faultPlace_10 : decode cX3_faultPlace 10 = .ok (.aload_n 0, 1) := by decide +kernel
theorem dX3_faultPlace_11 : decode cX3_faultPlace 11 = .ok (.iload_n 1, 1) := by decide +kernel
theorem dX3_faultPlace_12 : decode cX3_faultPlace 12 = .ok (.invokevirtual 23, 3) := by decide +kernel
theorem dX3_faultPlace_15 : decode cX3_faultPlace 15 = .ok (.ifCond .ne 5, 3) := by decide +kernel
theorem dX3_faultPlace_18 : decode cX3_faultPlace 18 = .ok (.iload_n 1, 1) := by decide +kernel
theorem dX3_faultPlace_19 : decode cX3_faultPlace 19 = .ok (.ireturn, 1) := by decide +kernel
theorem dX3_faultPlace_20 : decode cX3_faultPlace 20 = .ok (.iinc 1 1, 3) := by decide +kernel
theorem dX3_faultPlace_23 : decode cX3_faultPlace 23 = .ok (.goto (-21), 3) := by decide +kernel
theorem dX3_faultPlace_26 : decode cX3_faultPlace 26 = .ok (.aload_n 0, 1) := by decide +kernel
theorem dX3_faultPlace_27 : decode cX3_faultPlace 27 = .ok (.getfield 15, 3) := by decide +kernel
theorem dX3_faultPlace_30 : decode cX3_faultPlace 30 = .ok (.aload_n 0, 1) := by decide +kernel
theorem dX3_faultPlace_31 : decode cX3_faultPlace 31 = .ok (.invokevirtual 27, 3) := by decide +kernel
theorem dX3_faultPlace_34 : decode cX3_faultPlace 34 = .ok (.if_icmp .ge 10, 3) := by decide +kernel
theorem dX3_faultPlace_37 : decode cX3_faultPlace 37 = .ok (.aload_n 0, 1) := by decide +kernel
theorem dX3_faultPlace_38 : decode cX3_faultPlace 38 = .ok (.getfield 15, 3) := by decide +kernel
theorem dX3_faultPlace_41 : decode cX3_faultPlace 41 = .ok (.goto 5, 3) := by decide +kernel
theorem dX3_faultPlace_44 : decode cX3_faultPlace 44 = .ok (.bipush (-6), 2) := by decide +kernel
theorem dX3_faultPlace_46 : decode cX3_faultPlace 46 = .ok (.ireturn, 1) := by decide +kernel
set_option maxRecDepth 20000 in
theorem ggX3_members_X3_firstOfSet : GoodIn wsX3_members wsX3_firstOfSet := goodIn_r _ [6, 7, 8, 9, 5, 10, 11, 12, 13, 14, 1, 15, 27, 28] (by decide +kernel) (by decide +kernel)
set_option maxRecDepth 20000 in
theorem gX3_members_X3_firstOfSet : GoodIn wsX3_members (wsV RX3 31 RX3 yX3_firstOfSet wsX3_firstOfSet) := goodIn_app (goodIn_of _ (by decide +kernel)) ggX3_members_X3_firstOfSet
set_option maxRecDepth 20000 in
theorem ggX3_members_X3_figureAt : GoodIn wsX3_members wsX3_figureAt := goodIn_r _ [19, 11, 12, 13, 5, 14, 1, 15, 27, 28] (by decide +kernel) (by decide +kernel)
set_option maxRecDepth 20000 in
theorem gX3_members_X3_figureAt : GoodIn wsX3_members (wsV RX3 34 RX3 yX3_figureAt wsX3_figureAt) := goodIn_app (goodIn_of _ (by decide +kernel)) ggX3_members_X3_figureAt
set_option maxRecDepth 20000 in
theorem ggX3_members_X6_isMember : GoodIn wsX3_members wsX6_isMember := goodIn_r _ [22] (by decide +kernel) (by decide +kernel)
set_option maxRecDepth 20000 in
theorem gX3_members_X6_isMember_n37 : GoodIn wsX3_members (wsX6_isMember) := ggX3_members_X6_isMember
set_option maxRecDepth 20000 in
theorem ggX3_members_X4_only : GoodIn wsX3_members wsX4_only := goodIn_r _ [26] (by decide +kernel) (by decide +kernel)
set_option maxRecDepth 20000 in
theorem gX3_members_X4_only : GoodIn wsX3_members (va_wsS RX3 40 yX4_only wsX4_only) := goodIn_app (goodIn_of _ (by decide +kernel)) ggX3_members_X4_only
theorem dX3_members_0 : decode cX3_members 0 = .ok (.iconst 0, 1) := by decide +kernel
theorem dX3_members_1 : decode cX3_members 1 = .ok (.istore_n 1, 1) := by decide +kernel
theorem dX3_members_2 : decode cX3_members 2 = .ok (.aload_n 0, 1) := by decide +kernel
theorem dX3_members_3 : decode cX3_members 3 = .ok (.invokevirtual 31, 3) := by decide +kernel
theorem dX3_members_6 : decode cX3_members 6 = .ok (.istore_n 2, 1) := by decide +kernel
theorem dX3_members_7 : decode cX3_members 7 = .ok (.iload_n 2, 1) := by decide +kernel
theorem dX3_members_8 : decode cX3_members 8 = .ok (.aload_n 0, 1) := by decide +kernel
theorem dX3_members_9 : decode cX3_members 9 = .ok (.getfield 15, 3) := by decide +kernel
theorem dX3_members_12 : decode cX3_members 12 = .ok (.if_icmp .ge 31, 3) := by decide +kernel
theorem dX3_members_15 : decode cX3_members 15 = .ok (.aload_n 0, 1) := by decide +kernel
theorem dX3_members_16 : decode cX3_members 16 = .ok (.iload_n 2, 1) := by decide +kernel
theorem dX3_members_17 : decode cX3_members 17 = .ok (.invokevirtual 34, 3) := by decide +kernel
theorem dX3_members_20 : decode cX3_members 20 = .ok (.invokestatic 37, 3) := by decide +kernel
theorem dX3_members_23 : decode cX3_members 23 = .ok (.ifCond .eq 14, 3) := by decide +kernel
theorem dX3_members_26 : decode cX3_members 26 = .ok (.iload_n 1, 1) := by decide +kernel
theorem dX3_members_27 : decode cX3_members 27 = .ok (.aload_n 0, 1) := by decide +kernel
theorem dX3_members_28 : decode cX3_members 28 = .ok (.iload_n 2, 1) := by decide +kernel
theorem dX3_members_29 : decode cX3_members 29 = .ok (.invokevirtual 34, 3) := by decide +kernel
theorem dX3_members_32 : decode cX3_members 32 = .ok (.invokestatic 40, 3) := by decide +kernel
theorem dX3_members_35 : decode cX3_members 35 = .ok (.ior, 1) := by decide +kernel
theorem dX3_members_36 : decode cX3_members 36 = .ok (.istore_n 1, 1) := by decide +kernel
theorem dX3_members_37 : decode cX3_members 37 = .ok (.iinc 2 1, 3) := by decide +kernel
theorem dX3_members_40 : decode cX3_members 40 = .ok (.goto (-33), 3) := by decide +kernel
theorem dX3_members_43 : decode cX3_members 43 = .ok (.iload_n 1, 1) := by decide +kernel
theorem dX3_members_44 : decode cX3_members 44 = .ok (.ireturn, 1) := by decide +kernel
set_option maxRecDepth 20000 in
theorem ggX3_canStand_X3_letter : GoodIn wsX3_canStand wsX3_letter := goodIn_r _ [5, 6, 7, 8, 4, 9, 10, 11, 26, 27] (by decide +kernel) (by decide +kernel)
set_option maxRecDepth 20000 in
theorem gX3_canStand_X3_letter : GoodIn wsX3_canStand (wsV RX3 45 RX3 yX3_letter wsX3_letter) := goodIn_app (goodIn_of _ (by decide +kernel)) ggX3_canStand_X3_letter
set_option maxRecDepth 20000 in
theorem ggX3_canStand_X3_isLetter : GoodIn wsX3_canStand wsX3_isLetter := goodIn_r _ [14] (by decide +kernel) (by decide +kernel)
set_option maxRecDepth 20000 in
theorem gX3_canStand_X3_isLetter : GoodIn wsX3_canStand (va_wsS RX3 48 yX3_isLetter wsX3_isLetter) := goodIn_app (goodIn_of _ (by decide +kernel)) ggX3_canStand_X3_isLetter
set_option maxRecDepth 20000 in
theorem ggX3_canStand_X3_figureAt : GoodIn wsX3_canStand wsX3_figureAt := goodIn_r _ [18, 6, 7, 8, 4, 9, 10, 11, 26, 27] (by decide +kernel) (by decide +kernel)
set_option maxRecDepth 20000 in
theorem gX3_canStand_X3_figureAt : GoodIn wsX3_canStand (wsV RX3 34 RX3 yX3_figureAt wsX3_figureAt) := goodIn_app (goodIn_of _ (by decide +kernel)) ggX3_canStand_X3_figureAt
set_option maxRecDepth 20000 in
theorem ggX3_canStand_X3_firstOfSet : GoodIn wsX3_canStand wsX3_firstOfSet := goodIn_r _ [22, 1, 2, 3, 4, 5, 6, 7, 8, 9, 10, 11, 26, 27] (by decide +kernel) (by decide +kernel)
set_option maxRecDepth 20000 in
theorem gX3_canStand_X3_firstOfSet : GoodIn wsX3_canStand (wsV RX3 31 RX3 yX3_firstOfSet wsX3_firstOfSet) := goodIn_app (goodIn_of _ (by decide +kernel)) ggX3_canStand_X3_firstOfSet
set_option maxRecDepth 20000 in
theorem ggX3_canStand_X6_isMember : GoodIn wsX3_canStand wsX6_isMember := goodIn_r _ [25] (by decide +kernel) (by decide +kernel)
set_option maxRecDepth 20000 in
theorem gX3_canStand_X6_isMember_n37 : GoodIn wsX3_canStand (wsX6_isMember) := ggX3_canStand_X6_isMember
theorem dX3_canStand_0 : decode cX3_canStand 0 = .ok (.iload_n 1, 1) := by decide +kernel
theorem dX3_canStand_1 : decode cX3_canStand 1 = .ok (.ifCond .ne 11, 3) := by decide +kernel
theorem dX3_canStand_4 : decode cX3_canStand 4 = .ok (.aload_n 0, 1) := by decide +kernel
theorem dX3_canStand_5 : decode cX3_canStand 5 = .ok (.invokevirtual 45, 3) := by decide +kernel
theorem dX3_canStand_8 : decode cX3_canStand 8 = .ok (.invokestatic 48, 3) := by decide +kernel
theorem dX3_canStand_11 : decode cX3_canStand 11 = .ok (.ireturn, 1) := by decide +kernel
theorem dX3_canStand_12 : decode cX3_canStand 12 = .ok (.aload_n 0, 1) := by decide +kernel
theorem dX3_canStand_13 : decode cX3_canStand 13 = .ok (.iload_n 1, 1) := by decide +kernel
theorem dX3_canStand_14 : decode cX3_canStand 14 = .ok (.invokevirtual 34, 3) := by decide +kernel
theorem dX3_canStand_17 : decode cX3_canStand 17 = .ok (.istore_n 2, 1) := by decide +kernel
theorem dX3_canStand_18 : decode cX3_canStand 18 = .ok (.iload_n 1, 1) := by decide +kernel
theorem dX3_canStand_19 : decode cX3_canStand 19 = .ok (.aload_n 0, 1) := by decide +kernel
theorem dX3_canStand_20 : decode cX3_canStand 20 = .ok (.invokevirtual 31, 3) := by decide +kernel
theorem dX3_canStand_23 : decode cX3_canStand 23 = .ok (.if_icmp .lt 35, 3) := by decide +kernel
theorem dX3_canStand_26 : decode cX3_canStand 26 = .ok (.iload_n 2, 1) := by decide +kernel
theorem dX3_canStand_27 : decode cX3_canStand 27 = .ok (.invokestatic 37, 3) := by decide +kernel
theorem dX3_canStand_30 : decode cX3_canStand 30 = .ok (.ifCond .eq 26, 3) := by decide +kernel
theorem dX3_canStand_33 : decode cX3_canStand 33 = .ok (.iload_n 1, 1) := by decide +kernel
theorem dX3_canStand_34 : decode cX3_canStand 34 = .ok (.aload_n 0, 1) := by decide +kernel
theorem dX3_canStand_35 : decode cX3_canStand 35 = .ok (.invokevirtual 31, 3) := by decide +kernel
theorem dX3_canStand_38 : decode cX3_canStand 38 = .ok (.if_icmp .eq 14, 3) := by decide +kernel
theorem dX3_canStand_41 : decode cX3_canStand 41 = .ok (.iload_n 2, 1) := by decide +kernel
theorem dX3_canStand_42 : decode cX3_canStand 42 = .ok (.aload_n 0, 1) := by decide +kernel
theorem dX3_canStand_43 : decode cX3_canStand 43 = .ok (.iload_n 1, 1) := by decide +kernel
theorem dX3_canStand_44 : decode cX3_canStand 44 = .ok (.iconst 1, 1) := by decide +kernel
theorem dX3_canStand_45 : decode cX3_canStand 45 = .ok (.isub, 1) := by decide +kernel
theorem dX3_canStand_46 : decode cX3_canStand 46 = .ok (.invokevirtual 34, 3) := by decide +kernel
theorem dX3_canStand_49 : decode cX3_canStand 49 = .ok (.if_icmp .le 7, 3) := by decide +kernel
theorem dX3_canStand_52 : decode cX3_canStand 52 = .ok (.iconst 1, 1) := by decide +kernel
theorem dX3_canStand_53 : decode cX3_canStand 53 = .ok (.goto 4, 3) := by decide +kernel
theorem dX3_canStand_56 : decode cX3_canStand 56 = .ok (.iconst 0, 1) := by decide +kernel
theorem dX3_canStand_57 : decode cX3_canStand 57 = .ok (.ireturn, 1) := by decide +kernel
theorem dX3_canStand_58 : decode cX3_canStand 58 = .ok (.iload_n 1, 1) := by decide +kernel
theorem dX3_canStand_59 : decode cX3_canStand 59 = .ok (.iconst 1, 1) := by decide +kernel
theorem dX3_canStand_60 : decode cX3_canStand 60 = .ok (.if_icmp .gt 12, 3) := by decide +kernel
theorem dX3_canStand_63 : decode cX3_canStand 63 = .ok (.aload_n 0, 1) := by decide +kernel
theorem dX3_canStand_64 : decode cX3_canStand 64 = .ok (.invokevirtual 45, 3) := by decide +kernel
theorem dX3_canStand_67 : decode cX3_canStand 67 = .ok (.bipush 102, 2) := by decide +kernel
theorem dX3_canStand_69 : decode cX3_canStand 69 = .ok (.if_icmp .ne 5, 3) := by decide +kernel
theorem dX3_canStand_72 : decode cX3_canStand 72 = .ok (.iconst 0, 1) := by decide +kernel
theorem dX3_canStand_73 : decode cX3_canStand 73 = .ok (.ireturn, 1) := by decide +kernel
theorem dX3_canStand_74 : decode cX3_canStand 74 = .ok (.aload_n 0, 1) := by decide +kernel
theorem dX3_canStand_75 : decode cX3_canStand 75 = .ok (.invokevirtual 45, 3) := by decide +kernel
theorem dX3_canStand_78 : decode cX3_canStand 78 = .ok (.bipush 100, 2) := by decide +kernel
theorem dX3_canStand_80 : decode cX3_canStand 80 = .ok (.if_icmp .eq 12, 3) := by decide +kernel
theorem dX3_canStand_83 : decode cX3_canStand 83 = .ok (.aload_n 0, 1) := by decide +kernel
theorem dX3_canStand_84 : decode cX3_canStand 84 = .ok (.invokevirtual 45, 3) := by decide +kernel
theorem dX3_canStand_87 : decode cX3_canStand 87 = .ok (.bipush 116, 2) := by decide +kernel
theorem dX3_canStand_89 : decode cX3_canStand 89 = .ok (.if_icmp .ne 7, 3) := by decide +kernel
theorem dX3_canStand_92 : decode cX3_canStand 92 = .ok (.iconst 1, 1) := by decide +kernel
theorem dX3_canStand_93 : decode cX3_canStand 93 = .ok (.goto 4, 3) := by decide +kernel
theorem dX3_canStand_96 : decode cX3_canStand 96 = .ok (.iconst 0, 1) := by decide +kernel
theorem dX3_canStand_97 : decode cX3_canStand 97 = .ok (.istore_n 3, 1) := by decide +kernel
theorem dX3_canStand_98 : decode cX3_canStand 98 = .ok (.iload_n 3, 1) := by decide +kernel
theorem dX3_canStand_99 : decode cX3_canStand 99 = .ok (.ifCond .eq 21, 3) := by decide +kernel
theorem dX3_canStand_102 : decode cX3_canStand 102 = .ok (.iload_n 2, 1) := by decide +kernel
theorem dX3_canStand_103 : decode cX3_canStand 103 = .ok (.iconst 1, 1) := by decide +kernel
theorem dX3_canStand_104 : decode cX3_canStand 104 = .ok (.if_icmp .lt 12, 3) := by decide +kernel
theorem dX3_canStand_107 : decode cX3_canStand 107 = .ok (.iload_n 2, 1) := by decide +kernel
theorem dX3_canStand_108 : decode cX3_canStand 108 = .ok (.iconst 5, 1) := by decide +kernel
theorem dX3_canStand_109 : decode cX3_canStand 109 = .ok (.if_icmp .gt 7, 3) := by decide +kernel
theorem dX3_canStand_112 : decode cX3_canStand 112 = .ok (.iconst 1, 1) := by decide +kernel
theorem dX3_canStand_113 : decode cX3_canStand 113 = .ok (.goto 11, 3) := by decide +kernel
theorem dX3_canStand_116 : decode cX3_canStand 116 = .ok (.iconst 0, 1) := by decide +kernel
theorem dX3_canStand_117 : decode cX3_canStand 117 = .ok (.goto 7, 3) := by decide +kernel
theorem dX3_canStand_120 : decode cX3_canStand 120 = .ok (.iload_n 2, 1) := by decide +kernel
theorem dX3_canStand_121 : decode cX3_canStand 121 = .ok (.invokestatic 37, 3) := by decide +kernel
theorem dX3_canStand_124 : decode cX3_canStand 124 = .ok (.ireturn, 1) := by decide +kernel
set_option maxRecDepth 20000 in
theorem ggX3_firstOfSet_X3_letter : GoodIn wsX3_firstOfSet wsX3_letter := goodIn_r _ [5, 6, 7, 8, 4, 9, 10, 11, 12, 13] (by decide +kernel) (by decide +kernel)
set_option maxRecDepth 20000 in
theorem gX3_firstOfSet_X3_letter : GoodIn wsX3_firstOfSet (wsV RX3 45 RX3 yX3_letter wsX3_letter) := goodIn_app (goodIn_of _ (by decide +kernel)) ggX3_firstOfSet_X3_letter
theorem dX3_firstOfSet_0 : decode cX3_firstOfSet 0 = .ok (.aload_n 0, 1) := by decide +kernel
theorem dX3_firstOfSet_1 : decode cX3_firstOfSet 1 = .ok (.invokevirtual 45, 3) := by decide +kernel
theorem dX3_firstOfSet_4 : decode cX3_firstOfSet 4 = .ok (.lookupswitch 40 #[(98, 38), (111, 36), (116, 38)], 36) := by decide +kernel
theorem dX3_firstOfSet_40 : decode cX3_firstOfSet 40 = .ok (.iconst 1, 1) := by decide +kernel
theorem dX3_firstOfSet_41 : decode cX3_firstOfSet 41 = .ok (.ireturn, 1) := by decide +kernel
theorem dX3_firstOfSet_42 : decode cX3_firstOfSet 42 = .ok (.iconst 2, 1) := by decide +kernel
theorem dX3_firstOfSet_43 : decode cX3_firstOfSet 43 = .ok (.ireturn, 1) := by decide +kernel
theorem dX3_firstOfSet_44 : decode cX3_firstOfSet 44 = .ok (.bipush 10, 2) := by decide +kernel
theorem dX3_firstOfSet_46 : decode cX3_firstOfSet 46 = .ok (.ireturn, 1) := by decide +kernel
set_option maxRecDepth 20000 in
theorem ggX3_fewestSigns_X3_letter : GoodIn wsX3_fewestSigns wsX3_letter := goodIn_r _ [5, 6, 7, 8, 4, 9, 10, 11, 12, 13] (by decide +kernel) (by decide +kernel)
set_option maxRecDepth 20000 in
theorem gX3_fewestSigns_X3_letter : GoodIn wsX3_fewestSigns (wsV RX3 45 RX3 yX3_letter wsX3_letter) := goodIn_app (goodIn_of _ (by decide +kernel)) ggX3_fewestSigns_X3_letter
theorem dX3_fewestSigns_0 : decode cX3_fewestSigns 0 = .ok (.aload_n 0, 1) := by decide +kernel
theorem dX3_fewestSigns_1 : decode cX3_fewestSigns 1 = .ok (.invokevirtual 45, 3) := by decide +kernel
theorem dX3_fewestSigns_4 : decode cX3_fewestSigns 4 = .ok (.lookupswitch 40 #[(98, 38), (102, 36), (116, 38)], 36) := by decide +kernel
theorem dX3_fewestSigns_40 : decode cX3_fewestSigns 40 = .ok (.iconst 1, 1) := by decide +kernel
theorem dX3_fewestSigns_41 : decode cX3_fewestSigns 41 = .ok (.ireturn, 1) := by decide +kernel
theorem dX3_fewestSigns_42 : decode cX3_fewestSigns 42 = .ok (.iconst 3, 1) := by decide +kernel
theorem dX3_fewestSigns_43 : decode cX3_fewestSigns 43 = .ok (.ireturn, 1) := by decide +kernel
theorem dX3_fewestSigns_44 : decode cX3_fewestSigns 44 = .ok (.iconst 2, 1) := by decide +kernel
theorem dX3_fewestSigns_45 : decode cX3_fewestSigns 45 = .ok (.ireturn, 1) := by decide +kernel
theorem dX3_isLetter_0 : decode cX3_isLetter 0 = .ok (.iload_n 0, 1) := by decide +kernel
theorem dX3_isLetter_1 : decode cX3_isLetter 1 = .ok (.tableswitch 105 98 119 #[103, 105, 103, 105, 103, 105, 105, 105, 105, 105, 105, 105, 105, 103, 105, 105, 105, 103, 103, 105, 105, 103], 103) := by decide +kernel
theorem dX3_isLetter_104 : decode cX3_isLetter 104 = .ok (.iconst 1, 1) := by decide +kernel
theorem dX3_isLetter_105 : decode cX3_isLetter 105 = .ok (.ireturn, 1) := by decide +kernel
theorem dX3_isLetter_106 : decode cX3_isLetter 106 = .ok (.iconst 0, 1) := by decide +kernel
theorem dX3_isLetter_107 : decode cX3_isLetter 107 = .ok (.ireturn, 1) := by decide +kernel
theorem dX4_only_0 : decode cX4_only 0 = .ok (.iconst 1, 1) := by decide +kernel
theorem dX4_only_1 : decode cX4_only 1 = .ok (.iload_n 0, 1) := by decide +kernel
theorem dX4_only_2 : decode cX4_only 2 = .ok (.ishl, 1) := by decide +kernel
theorem dX4_only_3 : decode cX4_only 3 = .ok (.ireturn, 1) := by decide +kernel
theorem dX4_has_0 : decode cX4_has 0 = .ok (.iload_n 0, 1) := by decide +kernel
theorem dX4_has_1 : decode cX4_has 1 = .ok (.iload_n 1, 1) := by decide +kernel
theorem dX4_has_2 : decode cX4_has 2 = .ok (.ishr, 1) := by decide +kernel
theorem dX4_has_3 : decode cX4_has 3 = .ok (.iconst 1, 1) := by decide +kernel
theorem dX4_has_4 : decode cX4_has 4 = .ok (.iand, 1) := by decide +kernel
theorem dX4_has_5 : decode cX4_has 5 = .ok (.ifCond .eq 7, 3) := by decide +kernel
theorem dX4_has_8 : decode cX4_has 8 = .ok (.iconst 1, 1) := by decide +kernel
theorem dX4_has_9 : decode cX4_has 9 = .ok (.goto 4, 3) := by decide +kernel
theorem dX4_has_12 : decode cX4_has 12 = .ok (.iconst 0, 1) := by decide +kernel
theorem dX4_has_13 : decode cX4_has 13 = .ok (.ireturn, 1) := by decide +kernel
set_option maxRecDepth 20000 in
theorem ggX4_lowest_X4_has : GoodIn wsX4_lowest wsX4_has := goodIn_r _ [4] (by decide +kernel) (by decide +kernel)
set_option maxRecDepth 20000 in
theorem gX4_lowest_X4_has : GoodIn wsX4_lowest (va_wsS RX4 9 yX4_has wsX4_has) := goodIn_app (goodIn_of _ (by decide +kernel)) ggX4_lowest_X4_has
set_option maxRecDepth 20000 in
theorem ggX4_lowest_X4_only : GoodIn wsX4_lowest wsX4_only := goodIn_r _ [7] (by decide +kernel) (by decide +kernel)
set_option maxRecDepth 20000 in
theorem gX4_lowest_X4_only : GoodIn wsX4_lowest (va_wsS RX4 15 yX4_only wsX4_only) := goodIn_app (goodIn_of _ (by decide +kernel)) ggX4_lowest_X4_only
theorem dX4_lowest_0 : decode cX4_lowest 0 = .ok (.iconst 0, 1) := by decide +kernel
theorem dX4_lowest_1 : decode cX4_lowest 1 = .ok (.istore_n 2, 1) := by decide +kernel
theorem dX4_lowest_2 : decode cX4_lowest 2 = .ok (.iload_n 1, 1) := by decide +kernel
theorem dX4_lowest_3 : decode cX4_lowest 3 = .ok (.istore_n 3, 1) := by decide +kernel
theorem dX4_lowest_4 : decode cX4_lowest 4 = .ok (.iconst 1, 1) := by decide +kernel
theorem dX4_lowest_5 : decode cX4_lowest 5 = .ok (.istore 4, 2) := by decide +kernel
theorem dX4_lowest_7 : decode cX4_lowest 7 = .ok (.iload 4, 2) := by decide +kernel
theorem dX4_lowest_9 : decode cX4_lowest 9 = .ok (.bipush 7, 2) := by decide +kernel
theorem dX4_lowest_11 : decode cX4_lowest 11 = .ok (.if_icmp .gt 33, 3) := by decide +kernel
theorem dX4_lowest_14 : decode cX4_lowest 14 = .ok (.iload_n 3, 1) := by decide +kernel
theorem dX4_lowest_15 : decode cX4_lowest 15 = .ok (.ifCond .le 29, 3) := by decide +kernel
theorem dX4_lowest_18 : decode cX4_lowest 18 = .ok (.iload_n 0, 1) := by decide +kernel
theorem dX4_lowest_19 : decode cX4_lowest 19 = .ok (.iload 4, 2) := by decide +kernel
theorem dX4_lowest_21 : decode cX4_lowest 21 = .ok (.invokestatic 9, 3) := by decide +kernel
theorem dX4_lowest_24 : decode cX4_lowest 24 = .ok (.ifCond .eq 14, 3) := by decide +kernel
theorem dX4_lowest_27 : decode cX4_lowest 27 = .ok (.iload_n 2, 1) := by decide +kernel
theorem dX4_lowest_28 : decode cX4_lowest 28 = .ok (.iload 4, 2) := by decide +kernel
theorem dX4_lowest_30 : decode cX4_lowest 30 = .ok (.invokestatic 15, 3) := by decide +kernel
theorem dX4_lowest_33 : decode cX4_lowest 33 = .ok (.ior, 1) := by decide +kernel
theorem dX4_lowest_34 : decode cX4_lowest 34 = .ok (.istore_n 2, 1) := by decide +kernel
theorem dX4_lowest_35 : decode cX4_lowest 35 = .ok (.iinc 3 (-1), 3) := by decide +kernel
theorem dX4_lowest_38 : decode cX4_lowest 38 = .ok (.iinc 4 1, 3) := by decide +kernel
theorem dX4_lowest_41 : decode cX4_lowest 41 = .ok (.goto (-34), 3) := by decide +kernel
theorem dX4_lowest_44 : decode cX4_lowest 44 = .ok (.iload_n 2, 1) := by decide +kernel
theorem dX4_lowest_45 : decode cX4_lowest 45 = .ok (.ireturn, 1) := by decide +kernel
theorem dX5_plus_0 : decode cX5_plus 0 = .ok (.iload_n 0, 1) := by decide +kernel
theorem dX5_plus_1 : decode cX5_plus 1 = .ok (.iload_n 1, 1) := by decide +kernel
theorem dX5_plus_2 : decode cX5_plus 2 = .ok (.iadd, 1) := by decide +kernel
theorem dX5_plus_3 : decode cX5_plus 3 = .ok (.bipush 23, 2) := by decide +kernel
theorem dX5_plus_5 : decode cX5_plus 5 = .ok (.irem, 1) := by decide +kernel
theorem dX5_plus_6 : decode cX5_plus 6 = .ok (.ireturn, 1) := by decide +kernel
theorem dX5_times_0 : decode cX5_times 0 = .ok (.iload_n 0, 1) := by decide +kernel
theorem dX5_times_1 : decode cX5_times 1 = .ok (.iload_n 1, 1) := by decide +kernel
theorem dX5_times_2 : decode cX5_times 2 = .ok (.imul, 1) := by decide +kernel
theorem dX5_times_3 : decode cX5_times 3 = .ok (.bipush 23, 2) := by decide +kernel
theorem dX5_times_5 : decode cX5_times 5 = .ok (.irem, 1) := by decide +kernel
theorem dX5_times_6 : decode cX5_times 6 = .ok (.ireturn, 1) := by decide +kernel
theorem dX5_less_0 : decode cX5_less 0 = .ok (.iload_n 0, 1) := by decide +kernel
theorem dX5_less_1 : decode cX5_less 1 = .ok (.bipush 23, 2) := by decide +kernel
theorem dX5_less_3 : decode cX5_less 3 = .ok (.iadd, 1) := by decide +kernel
theorem dX5_less_4 : decode cX5_less 4 = .ok (.iload_n 1, 1) := by decide +kernel
theorem dX5_less_5 : decode cX5_less 5 = .ok (.isub, 1) := by decide +kernel
theorem dX5_less_6 : decode cX5_less 6 = .ok (.bipush 23, 2) := by decide +kernel
theorem dX5_less_8 : decode cX5_less 8 = .ok (.irem, 1) := by decide +kernel
theorem dX5_less_9 : decode cX5_less 9 = .ok (.ireturn, 1) := by decide +kernel
theorem dX5_inverse_0 : decode cX5_inverse 0 = .ok (.iconst 1, 1) := by decide +kernel
theorem dX5_inverse_1 : decode cX5_inverse 1 = .ok (.istore_n 1, 1) := by decide +kernel
theorem dX5_inverse_2 : decode cX5_inverse 2 = .ok (.iconst 0, 1) := by decide +kernel
theorem dX5_inverse_3 : decode cX5_inverse 3 = .ok (.istore_n 2, 1) := by decide +kernel
theorem dX5_inverse_4 : decode cX5_inverse 4 = .ok (.iload_n 2, 1) := by decide +kernel
theorem dX5_inverse_5 : decode cX5_inverse 5 = .ok (.bipush 21, 2) := by decide +kernel
theorem dX5_inverse_7 : decode cX5_inverse 7 = .ok (.if_icmp .ge 16, 3) := by decide +kernel
theorem dX5_inverse_10 : decode cX5_inverse 10 = .ok (.iload_n 1, 1) := by decide +kernel
theorem dX5_inverse_11 : decode cX5_inverse 11 = .ok (.iload_n 0, 1) := by decide +kernel
theorem dX5_inverse_12 : decode cX5_inverse 12 = .ok (.imul, 1) := by decide +kernel
theorem dX5_inverse_13 : decode cX5_inverse 13 = .ok (.bipush 23, 2) := by decide +kernel
theorem dX5_inverse_15 : decode cX5_inverse 15 = .ok (.irem, 1) := by decide +kernel
theorem dX5_inverse_16 : decode cX5_inverse 16 = .ok (.istore_n 1, 1) := by decide +kernel
theorem dX5_inverse_17 : decode cX5_inverse 17 = .ok (.iinc 2 1, 3) := by decide +kernel
theorem dX5_inverse_20 : decode cX5_inverse 20 = .ok (.goto (-16), 3) := by decide +kernel
theorem dX5_inverse_23 : decode cX5_inverse 23 = .ok (.iload_n 1, 1) := by decide +kernel
theorem dX5_inverse_24 : decode cX5_inverse 24 = .ok (.ireturn, 1) := by decide +kernel
theorem dX5_joined_0 : decode cX5_joined 0 = .ok (.iload_n 0, 1) := by decide +kernel
theorem dX5_joined_1 : decode cX5_joined 1 = .ok (.iload_n 1, 1) := by decide +kernel
theorem dX5_joined_2 : decode cX5_joined 2 = .ok (.imul, 1) := by decide +kernel
theorem dX5_joined_3 : decode cX5_joined 3 = .ok (.bipush 47, 2) := by decide +kernel
theorem dX5_joined_5 : decode cX5_joined 5 = .ok (.irem, 1) := by decide +kernel
theorem dX5_joined_6 : decode cX5_joined 6 = .ok (.ireturn, 1) := by decide +kernel
theorem dX5_raised_0 : decode cX5_raised 0 = .ok (.iconst 1, 1) := by decide +kernel
theorem dX5_raised_1 : decode cX5_raised 1 = .ok (.istore_n 2, 1) := by decide +kernel
theorem dX5_raised_2 : decode cX5_raised 2 = .ok (.iconst 0, 1) := by decide +kernel
theorem dX5_raised_3 : decode cX5_raised 3 = .ok (.istore_n 3, 1) := by decide +kernel
theorem dX5_raised_4 : decode cX5_raised 4 = .ok (.iload_n 3, 1) := by decide +kernel
theorem dX5_raised_5 : decode cX5_raised 5 = .ok (.iload_n 1, 1) := by decide +kernel
theorem dX5_raised_6 : decode cX5_raised 6 = .ok (.if_icmp .ge 16, 3) := by decide +kernel
theorem dX5_raised_9 : decode cX5_raised 9 = .ok (.iload_n 2, 1) := by decide +kernel
theorem dX5_raised_10 : decode cX5_raised 10 = .ok (.iload_n 0, 1) := by decide +kernel
theorem dX5_raised_11 : decode cX5_raised 11 = .ok (.imul, 1) := by decide +kernel
theorem dX5_raised_12 : decode cX5_raised 12 = .ok (.bipush 47, 2) := by decide +kernel
theorem dX5_raised_14 : decode cX5_raised 14 = .ok (.irem, 1) := by decide +kernel
theorem dX5_raised_15 : decode cX5_raised 15 = .ok (.istore_n 2, 1) := by decide +kernel
theorem dX5_raised_16 : decode cX5_raised 16 = .ok (.iinc 3 1, 3) := by decide +kernel
theorem dX5_raised_19 : decode cX5_raised 19 = .ok (.goto (-15), 3) := by decide +kernel
theorem dX5_raised_22 : decode cX5_raised 22 = .ok (.iload_n 2, 1) := by decide +kernel
theorem dX5_raised_23 : decode cX5_raised 23 = .ok (.ireturn, 1) := by decide +kernel
set_option maxRecDepth 20000 in
theorem ggX5_sealOf_X5_raised : GoodIn wsX5_sealOf wsX5_raised := goodIn_r _ [4] (by decide +kernel) (by decide +kernel)
set_option maxRecDepth 20000 in
theorem gX5_sealOf_X5_raised : GoodIn wsX5_sealOf (va_wsS RX5 9 yX5_raised wsX5_raised) := goodIn_app (goodIn_of _ (by decide +kernel)) ggX5_sealOf_X5_raised
theorem dX5_sealOf_0 : decode cX5_sealOf 0 = .ok (.iconst 4, 1) := by decide +kernel
theorem dX5_sealOf_1 : decode cX5_sealOf 1 = .ok (.iload_n 0, 1) := by decide +kernel
theorem dX5_sealOf_2 : decode cX5_sealOf 2 = .ok (.invokestatic 9, 3) := by decide +kernel
theorem dX5_sealOf_5 : decode cX5_sealOf 5 = .ok (.ireturn, 1) := by decide +kernel
set_option maxRecDepth 20000 in
theorem ggX5_fitting_X5_raised : GoodIn wsX5_fitting wsX5_raised := goodIn_r _ [8] (by decide +kernel) (by decide +kernel)
set_option maxRecDepth 20000 in
theorem gX5_fitting_X5_raised : GoodIn wsX5_fitting (va_wsS RX5 9 yX5_raised wsX5_raised) := goodIn_app (goodIn_of _ (by decide +kernel)) ggX5_fitting_X5_raised
set_option maxRecDepth 20000 in
theorem ggX5_fitting_X5_joined : GoodIn wsX5_fitting wsX5_joined := goodIn_r _ [11] (by decide +kernel) (by decide +kernel)
set_option maxRecDepth 20000 in
theorem gX5_fitting_X5_joined : GoodIn wsX5_fitting (va_wsS RX5 20 yX5_joined wsX5_joined) := goodIn_app (goodIn_of _ (by decide +kernel)) ggX5_fitting_X5_joined
set_option maxRecDepth 20000 in
theorem ggX5_fitting_X5_sealOf : GoodIn wsX5_fitting wsX5_sealOf := goodIn_r _ [14, 5, 6, 7, 8] (by decide +kernel) (by decide +kernel)
set_option maxRecDepth 20000 in
theorem gX5_fitting_X5_sealOf : GoodIn wsX5_fitting (va_wsS RX5 23 yX5_sealOf wsX5_sealOf) := goodIn_app (goodIn_of _ (by decide +kernel)) ggX5_fitting_X5_sealOf
theorem dX5_fitting_0 : decode cX5_fitting 0 = .ok (.iconst 1, 1) := by decide +kernel
theorem dX5_fitting_1 : decode cX5_fitting 1 = .ok (.istore 4, 2) := by decide +kernel
theorem dX5_fitting_3 : decode cX5_fitting 3 = .ok (.iload_n 3, 1) := by decide +kernel
theorem dX5_fitting_4 : decode cX5_fitting 4 = .ok (.aload_n 2, 1) := by decide +kernel
theorem dX5_fitting_5 : decode cX5_fitting 5 = .ok (.arraylength, 1) := by decide +kernel
theorem dX5_fitting_6 : decode cX5_fitting 6 = .ok (.invokestatic 15, 3) := by decide +kernel
theorem dX5_fitting_9 : decode cX5_fitting 9 = .ok (.iconst 1, 1) := by decide +kernel
theorem dX5_fitting_10 : decode cX5_fitting 10 = .ok (.isub, 1) := by decide +kernel
theorem dX5_fitting_11 : decode cX5_fitting 11 = .ok (.istore 5, 2) := by decide +kernel
theorem dX5_fitting_13 : decode cX5_fitting 13 = .ok (.iload 5, 2) := by decide +kernel
theorem dX5_fitting_15 : decode cX5_fitting 15 = .ok (.ifCond .lt 24, 3) := by decide +kernel
theorem dX5_fitting_18 : decode cX5_fitting 18 = .ok (.iload 4, 2) := by decide +kernel
theorem dX5_fitting_20 : decode cX5_fitting 20 = .ok (.iload_n 1, 1) := by decide +kernel
theorem dX5_fitting_21 : decode cX5_fitting 21 = .ok (.invokestatic 9, 3) := by decide +kernel
theorem dX5_fitting_24 : decode cX5_fitting 24 = .ok (.aload_n 2, 1) := by decide +kernel
theorem dX5_fitting_25 : decode cX5_fitting 25 = .ok (.iload 5, 2) := by decide +kernel
theorem dX5_fitting_27 : decode cX5_fitting 27 = .ok (.iaload, 1) := by decide +kernel
theorem dX5_fitting_28 : decode cX5_fitting 28 = .ok (.invokestatic 20, 3) := by decide +kernel
theorem dX5_fitting_31 : decode cX5_fitting 31 = .ok (.istore 4, 2) := by decide +kernel
theorem dX5_fitting_33 : decode cX5_fitting 33 = .ok (.iinc 5 (-1), 3) := by decide +kernel
theorem dX5_fitting_36 : decode cX5_fitting 36 = .ok (.goto (-23), 3) := by decide +kernel
theorem dX5_fitting_39 : decode cX5_fitting 39 = .ok (.iload_n 0, 1) := by decide +kernel
theorem dX5_fitting_40 : decode cX5_fitting 40 = .ok (.invokestatic 23, 3) := by decide +kernel
theorem dX5_fitting_43 : decode cX5_fitting 43 = .ok (.iload 4, 2) := by decide +kernel
theorem dX5_fitting_45 : decode cX5_fitting 45 = .ok (.if_icmp .ne 7, 3) := by decide +kernel
theorem dX5_fitting_48 : decode cX5_fitting 48 = .ok (.iconst 1, 1) := by decide +kernel
theorem dX5_fitting_49 : decode cX5_fitting 49 = .ok (.goto 4, 3) := by decide +kernel
theorem dX5_fitting_52 : decode cX5_fitting 52 = .ok (.iconst 0, 1) := by decide +kernel
theorem dX5_fitting_53 : decode cX5_fitting 53 = .ok (.ireturn, 1) := by decide +kernel
set_option maxRecDepth 20000 in
theorem ggX5_weight_X4_has : GoodIn wsX5_weight wsX4_has := goodIn_r _ [4] (by decide +kernel) (by decide +kernel)
set_option maxRecDepth 20000 in
theorem gX5_weight_X4_has : GoodIn wsX5_weight (va_wsS RX5 27 yX4_has wsX4_has) := goodIn_app (goodIn_of _ (by decide +kernel)) ggX5_weight_X4_has
set_option maxRecDepth 20000 in
theorem ggX5_weight_X5_less : GoodIn wsX5_weight wsX5_less := goodIn_r _ [8] (by decide +kernel) (by decide +kernel)
set_option maxRecDepth 20000 in
theorem gX5_weight_X5_less : GoodIn wsX5_weight (va_wsS RX5 33 yX5_less wsX5_less) := goodIn_app (goodIn_of _ (by decide +kernel)) ggX5_weight_X5_less
set_option maxRecDepth 20000 in
theorem ggX5_weight_X5_times : GoodIn wsX5_weight wsX5_times := goodIn_r _ [11] (by decide +kernel) (by decide +kernel)
set_option maxRecDepth 20000 in
theorem gX5_weight_X5_times : GoodIn wsX5_weight (va_wsS RX5 36 yX5_times wsX5_times) := goodIn_app (goodIn_of _ (by decide +kernel)) ggX5_weight_X5_times
set_option maxRecDepth 20000 in
theorem ggX5_weight_X5_inverse : GoodIn wsX5_weight wsX5_inverse := goodIn_r _ [14] (by decide +kernel) (by decide +kernel)
set_option maxRecDepth 20000 in
theorem gX5_weight_X5_inverse : GoodIn wsX5_weight (va_wsS RX5 39 yX5_inverse wsX5_inverse) := goodIn_app (goodIn_of _ (by decide +kernel)) ggX5_weight_X5_inverse
theorem dX5_weight_0 : decode cX5_weight 0 = .ok (.iconst 1, 1) := by decide +kernel
theorem dX5_weight_1 : decode cX5_weight 1 = .ok (.istore_n 3, 1) := by decide +kernel
theorem dX5_weight_2 : decode cX5_weight 2 = .ok (.iconst 1, 1) := by decide +kernel
theorem dX5_weight_3 : decode cX5_weight 3 = .ok (.istore 4, 2) := by decide +kernel
theorem dX5_weight_5 : decode cX5_weight 5 = .ok (.iconst 1, 1) := by decide +kernel
theorem dX5_weight_6 : decode cX5_weight 6 = .ok (.istore 5, 2) := by decide +kernel
theorem dX5_weight_8 : decode cX5_weight 8 = .ok (.iload 5, 2) := by decide +kernel
theorem dX5_weight_10 : decode cX5_weight 10 = .ok (.bipush 7, 2) := by decide +kernel
theorem dX5_weight_12 : decode cX5_weight 12 = .ok (.if_icmp .gt 48, 3) := by decide +kernel
theorem dX5_weight_15 : decode cX5_weight 15 = .ok (.iload 5, 2) := by decide +kernel
theorem dX5_weight_17 : decode cX5_weight 17 = .ok (.iload_n 0, 1) := by decide +kernel
theorem dX5_weight_18 : decode cX5_weight 18 = .ok (.if_icmp .eq 36, 3) := by decide +kernel
theorem dX5_weight_21 : decode cX5_weight 21 = .ok (.iload_n 1, 1) := by decide +kernel
theorem dX5_weight_22 : decode cX5_weight 22 = .ok (.iload 5, 2) := by decide +kernel
theorem dX5_weight_24 : decode cX5_weight 24 = .ok (.invokestatic 27, 3) := by decide +kernel
theorem dX5_weight_27 : decode cX5_weight 27 = .ok (.ifCond .eq 27, 3) := by decide +kernel
theorem dX5_weight_30 : decode cX5_weight 30 = .ok (.iload_n 3, 1) := by decide +kernel
theorem dX5_weight_31 : decode cX5_weight 31 = .ok (.iload_n 2, 1) := by decide +kernel
theorem dX5_weight_32 : decode cX5_weight 32 = .ok (.iload 5, 2) := by decide +kernel
theorem dX5_weight_34 : decode cX5_weight 34 = .ok (.invokestatic 33, 3) := by decide +kernel
theorem dX5_weight_37 : decode cX5_weight 37 = .ok (.invokestatic 36, 3) := by decide +kernel
theorem dX5_weight_40 : decode cX5_weight 40 = .ok (.istore_n 3, 1) := by decide +kernel
theorem dX5_weight_41 : decode cX5_weight 41 = .ok (.iload 4, 2) := by decide +kernel
theorem dX5_weight_43 : decode cX5_weight 43 = .ok (.iload_n 0, 1) := by decide +kernel
theorem dX5_weight_44 : decode cX5_weight 44 = .ok (.iload 5, 2) := by decide +kernel
theorem dX5_weight_46 : decode cX5_weight 46 = .ok (.invokestatic 33, 3) := by decide +kernel
theorem dX5_weight_49 : decode cX5_weight 49 = .ok (.invokestatic 36, 3) := by decide +kernel
theorem dX5_weight_52 : decode cX5_weight 52 = .ok (.istore 4, 2) := by decide +kernel
theorem dX5_weight_54 : decode cX5_weight 54 = .ok (.iinc 5 1, 3) := by decide +kernel
theorem dX5_weight_57 : decode cX5_weight 57 = .ok (.goto (-49), 3) := by decide +kernel
theorem dX5_weight_60 : decode cX5_weight 60 = .ok (.iload_n 3, 1) := by decide +kernel
theorem dX5_weight_61 : decode cX5_weight 61 = .ok (.iload 4, 2) := by decide +kernel
theorem dX5_weight_63 : decode cX5_weight 63 = .ok (.invokestatic 39, 3) := by decide +kernel
theorem dX5_weight_66 : decode cX5_weight 66 = .ok (.invokestatic 36, 3) := by decide +kernel
theorem dX5_weight_69 : decode cX5_weight 69 = .ok (.ireturn, 1) := by decide +kernel
set_option maxRecDepth 20000 in
theorem ggX5_weighed_X4_has : GoodIn wsX5_weighed wsX4_has := goodIn_r _ [4] (by decide +kernel) (by decide +kernel)
set_option maxRecDepth 20000 in
theorem gX5_weighed_X4_has : GoodIn wsX5_weighed (va_wsS RX5 27 yX4_has wsX4_has) := goodIn_app (goodIn_of _ (by decide +kernel)) ggX5_weighed_X4_has
set_option maxRecDepth 20000 in
theorem ggX5_weighed_X5_weight : GoodIn wsX5_weighed wsX5_weight := goodIn_r _ [8, 1, 2, 3, 4, 9, 10, 7, 11, 12, 13, 14, 15, 16, 17] (by decide +kernel) (by decide +kernel)
set_option maxRecDepth 20000 in
theorem gX5_weighed_X5_weight : GoodIn wsX5_weighed (va_wsS RX5 42 yX5_weight wsX5_weight) := goodIn_app (goodIn_of _ (by decide +kernel)) ggX5_weighed_X5_weight
set_option maxRecDepth 20000 in
theorem ggX5_weighed_X5_times : GoodIn wsX5_weighed wsX5_times := goodIn_r _ [14] (by decide +kernel) (by decide +kernel)
set_option maxRecDepth 20000 in
theorem gX5_weighed_X5_times : GoodIn wsX5_weighed (va_wsS RX5 36 yX5_times wsX5_times) := goodIn_app (goodIn_of _ (by decide +kernel)) ggX5_weighed_X5_times
set_option maxRecDepth 20000 in
theorem ggX5_weighed_X5_plus : GoodIn wsX5_weighed wsX5_plus := goodIn_r _ [20] (by decide +kernel) (by decide +kernel)
set_option maxRecDepth 20000 in
theorem gX5_weighed_X5_plus : GoodIn wsX5_weighed (va_wsS RX5 46 yX5_plus wsX5_plus) := goodIn_app (goodIn_of _ (by decide +kernel)) ggX5_weighed_X5_plus
theorem dX5_weighed_0 : decode cX5_weighed 0 = .ok (.iconst 0, 1) := by decide +kernel
theorem dX5_weighed_1 : decode cX5_weighed 1 = .ok (.istore_n 3, 1) := by decide +kernel
theorem dX5_weighed_2 : decode cX5_weighed 2 = .ok (.iconst 1, 1) := by decide +kernel
theorem dX5_weighed_3 : decode cX5_weighed 3 = .ok (.istore 4, 2) := by decide +kernel
theorem dX5_weighed_5 : decode cX5_weighed 5 = .ok (.iload 4, 2) := by decide +kernel
theorem dX5_weighed_7 : decode cX5_weighed 7 = .ok (.bipush 7, 2) := by decide +kernel
theorem dX5_weighed_9 : decode cX5_weighed 9 = .ok (.if_icmp .gt 44, 3) := by decide +kernel
theorem dX5_weighed_12 : decode cX5_weighed 12 = .ok (.iload 4, 2) := by decide +kernel
theorem dX5_weighed_14 : decode cX5_weighed 14 = .ok (.aload_n 0, 1) := by decide +kernel
theorem dX5_weighed_15 : decode cX5_weighed 15 = .ok (.arraylength, 1) := by decide +kernel
theorem dX5_weighed_16 : decode cX5_weighed 16 = .ok (.if_icmp .ge 37, 3) := by decide +kernel
theorem dX5_weighed_19 : decode cX5_weighed 19 = .ok (.iload_n 1, 1) := by decide +kernel
theorem dX5_weighed_20 : decode cX5_weighed 20 = .ok (.iload 4, 2) := by decide +kernel
theorem dX5_weighed_22 : decode cX5_weighed 22 = .ok (.invokestatic 27, 3) := by decide +kernel
theorem dX5_weighed_25 : decode cX5_weighed 25 = .ok (.ifCond .eq 22, 3) := by decide +kernel
theorem dX5_weighed_28 : decode cX5_weighed 28 = .ok (.iload_n 3, 1) := by decide +kernel
theorem dX5_weighed_29 : decode cX5_weighed 29 = .ok (.aload_n 0, 1) := by decide +kernel
theorem dX5_weighed_30 : decode cX5_weighed 30 = .ok (.iload 4, 2) := by decide +kernel
theorem dX5_weighed_32 : decode cX5_weighed 32 = .ok (.iaload, 1) := by decide +kernel
theorem dX5_weighed_33 : decode cX5_weighed 33 = .ok (.iload 4, 2) := by decide +kernel
theorem dX5_weighed_35 : decode cX5_weighed 35 = .ok (.iload_n 1, 1) := by decide +kernel
theorem dX5_weighed_36 : decode cX5_weighed 36 = .ok (.iload_n 2, 1) := by decide +kernel
theorem dX5_weighed_37 : decode cX5_weighed 37 = .ok (.invokestatic 42, 3) := by decide +kernel
theorem dX5_weighed_40 : decode cX5_weighed 40 = .ok (.invokestatic 36, 3) := by decide +kernel
theorem dX5_weighed_43 : decode cX5_weighed 43 = .ok (.invokestatic 46, 3) := by decide +kernel
theorem dX5_weighed_46 : decode cX5_weighed 46 = .ok (.istore_n 3, 1) := by decide +kernel
theorem dX5_weighed_47 : decode cX5_weighed 47 = .ok (.iinc 4 1, 3) := by decide +kernel
theorem dX5_weighed_50 : decode cX5_weighed 50 = .ok (.goto (-45), 3) := by decide +kernel
theorem dX5_weighed_53 : decode cX5_weighed 53 = .ok (.iload_n 3, 1) := by decide +kernel
theorem dX5_weighed_54 : decode cX5_weighed 54 = .ok (.ireturn, 1) := by decide +kernel
set_option maxRecDepth 20000 in
theorem ggX6_init_X3_init : GoodIn wsX6_init wsX3_init := goodIn_r _ [17, 18, 2, 3, 19, 20, 21, 62, 63] (by decide +kernel) (by decide +kernel)
set_option maxRecDepth 20000 in
theorem gX6_init_X3_init : GoodIn wsX6_init (wsX3_init) := ggX6_init_X3_init
set_option maxRecDepth 20000 in
theorem ggX6_init_X2_init : GoodIn wsX6_init wsX2_init := goodIn_r _ [24, 25, 2, 3, 26, 27, 28, 29, 19, 30, 31, 32, 33, 34, 35, 36, 37, 38, 39, 40, 41, 42, 43, 44, 45, 46, 47, 48, 49, 50, 51, 52, 53, 54, 55, 56, 57, 58, 59, 60, 61, 74, 75, 76, 77, 78, 79, 80, 81, 82, 83, 84, 85, 68, 69, 70, 71, 72, 73, 86, 87, 88, 89] (by decide +kernel) (by decide +kernel)
set_option maxRecDepth 20000 in
theorem gX6_init_X2_init : GoodIn wsX6_init (wsX2_init) := ggX6_init_X2_init
theorem dX6_init_0 : decode cX6_init 0 = .ok (.aload_n 0, 1) := by decide +kernel
theorem dX6_init_1 : decode cX6_init 1 = .ok (.invokespecial 1, 3) := by decide +kernel
theorem dX6_init_4 : decode cX6_init 4 = .ok (.aload_n 0, 1) := by decide +kernel
theorem dX6_init_5 : decode cX6_init 5 = .ok (.new 7, 3) := by decide +kernel
theorem dX6_init_8 : decode cX6_init 8 = .ok (.dup, 1) := by decide +kernel
theorem dX6_init_9 : decode cX6_init 9 = .ok (.invokespecial 9, 3) := by decide +kernel
theorem dX6_init_12 : decode cX6_init 12 = .ok (.putfield 10, 3) := by decide +kernel
theorem dX6_init_15 : decode cX6_init 15 = .ok (.aload_n 0, 1) := by decide +kernel
theorem dX6_init_16 : decode cX6_init 16 = .ok (.new 16, 3) := by decide +kernel
theorem dX6_init_19 : decode cX6_init 19 = .ok (.dup, 1) := by decide +kernel
theorem dX6_init_20 : decode cX6_init 20 = .ok (.invokespecial 18, 3) := by decide +kernel
theorem dX6_init_23 : decode cX6_init 23 = .ok (.putfield 19, 3) := by decide +kernel
theorem dX6_init_26 : decode cX6_init 26 = .ok (.aload_n 0, 1) := by decide +kernel
theorem dX6_init_27 : decode cX6_init 27 = .ok (.aload_n 0, 1) := by decide +kernel
theorem dX6_init_28 : decode cX6_init 28 = .ok (.getfield 19, 3) := by decide +kernel
theorem dX6_init_31 : decode cX6_init 31 = .ok (.getfield 23, 3) := by decide +kernel
theorem dX6_init_34 : decode cX6_init 34 = .ok (.putfield 27, 3) := by decide +kernel
theorem dX6_init_37 : decode cX6_init 37 = .ok (.aload_n 0, 1) := by decide +kernel
theorem dX6_init_38 : decode cX6_init 38 = .ok (.iconst 2, 1) := by decide +kernel
theorem dX6_init_39 : decode cX6_init 39 = .ok (.anewarray 28, 3) := by decide +kernel
theorem dX6_init_42 : decode cX6_init 42 = .ok (.putfield 30, 3) := by decide +kernel
theorem dX6_init_45 : decode cX6_init 45 = .ok (.return_, 1) := by decide +kernel
set_option maxRecDepth 20000 in
theorem ggX6_row_X6_isMember : GoodIn wsX6_row wsX6_isMember := goodIn_r _ [5] (by decide +kernel) (by decide +kernel)
set_option maxRecDepth 20000 in
theorem gX6_row_X6_isMember : GoodIn wsX6_row (va_wsS RX6 34 yX6_isMember wsX6_isMember) := goodIn_app (goodIn_of _ (by decide +kernel)) ggX6_row_X6_isMember
set_option maxRecDepth 20000 in
theorem ggX6_row_X6_isValue : GoodIn wsX6_row wsX6_isValue := goodIn_r _ [8] (by decide +kernel) (by decide +kernel)
set_option maxRecDepth 20000 in
theorem gX6_row_X6_isValue : GoodIn wsX6_row (va_wsS RX6 38 yX6_isValue wsX6_isValue) := goodIn_app (goodIn_of _ (by decide +kernel)) ggX6_row_X6_isValue
theorem dX6_row_0 : decode cX6_row 0 = .ok (.iload_n 1, 1) := by decide +kernel
theorem dX6_row_1 : decode cX6_row 1 = .ok (.ifCond .eq 12, 3) := by decide +kernel
theorem dX6_row_4 : decode cX6_row 4 = .ok (.iload_n 1, 1) := by decide +kernel
theorem dX6_row_5 : decode cX6_row 5 = .ok (.invokestatic 34, 3) := by decide +kernel
theorem dX6_row_8 : decode cX6_row 8 = .ok (.ifCond .ne 5, 3) := by decide +kernel
theorem dX6_row_11 : decode cX6_row 11 = .ok (.iconst (-1), 1) := by decide +kernel
theorem dX6_row_12 : decode cX6_row 12 = .ok (.ireturn, 1) := by decide +kernel
theorem dX6_row_13 : decode cX6_row 13 = .ok (.iload_n 2, 1) := by decide +kernel
theorem dX6_row_14 : decode cX6_row 14 = .ok (.ifCond .lt 15, 3) := by decide +kernel
theorem dX6_row_17 : decode cX6_row 17 = .ok (.iload_n 2, 1) := by decide +kernel
theorem dX6_row_18 : decode cX6_row 18 = .ok (.iconst 5, 1) := by decide +kernel
theorem dX6_row_19 : decode cX6_row 19 = .ok (.if_icmp .ge 10, 3) := by decide +kernel
theorem dX6_row_22 : decode cX6_row 22 = .ok (.iload_n 3, 1) := by decide +kernel
theorem dX6_row_23 : decode cX6_row 23 = .ok (.invokestatic 38, 3) := by decide +kernel
theorem dX6_row_26 : decode cX6_row 26 = .ok (.ifCond .ne 6, 3) := by decide +kernel
theorem dX6_row_29 : decode cX6_row 29 = .ok (.bipush (-2), 2) := by decide +kernel
theorem dX6_row_31 : decode cX6_row 31 = .ok (.ireturn, 1) := by decide +kernel
theorem dX6_row_32 : decode cX6_row 32 = .ok (.iload_n 1, 1) := by decide +kernel
theorem dX6_row_33 : decode cX6_row 33 = .ok (.iconst 5, 1) := by decide +kernel
theorem dX6_row_34 : decode cX6_row 34 = .ok (.imul, 1) := by decide +kernel
theorem dX6_row_35 : decode cX6_row 35 = .ok (.iload_n 2, 1) := by decide +kernel
theorem dX6_row_36 : decode cX6_row 36 = .ok (.iadd, 1) := by decide +kernel
theorem dX6_row_37 : decode cX6_row 37 = .ok (.istore 4, 2) := by decide +kernel
theorem dX6_row_39 : decode cX6_row 39 = .ok (.aload_n 0, 1) := by decide +kernel
theorem dX6_row_40 : decode cX6_row 40 = .ok (.getfield 27, 3) := by decide +kernel
theorem dX6_row_43 : decode cX6_row 43 = .ok (.getfield 41, 3) := by decide +kernel
theorem dX6_row_46 : decode cX6_row 46 = .ok (.iload 4, 2) := by decide +kernel
theorem dX6_row_48 : decode cX6_row 48 = .ok (.iaload, 1) := by decide +kernel
theorem dX6_row_49 : decode cX6_row 49 = .ok (.istore 5, 2) := by decide +kernel
theorem dX6_row_51 : decode cX6_row 51 = .ok (.aload_n 0, 1) := by decide +kernel
theorem dX6_row_52 : decode cX6_row 52 = .ok (.getfield 27, 3) := by decide +kernel
theorem dX6_row_55 : decode cX6_row 55 = .ok (.getfield 41, 3) := by decide +kernel
theorem dX6_row_58 : decode cX6_row 58 = .ok (.iload 4, 2) := by decide +kernel
theorem dX6_row_60 : decode cX6_row 60 = .ok (.iload_n 3, 1) := by decide +kernel
theorem dX6_row_61 : decode cX6_row 61 = .ok (.iastore, 1) := by decide +kernel
theorem dX6_row_62 : decode cX6_row 62 = .ok (.iload 5, 2) := by decide +kernel
theorem dX6_row_64 : decode cX6_row 64 = .ok (.ireturn, 1) := by decide +kernel
set_option maxRecDepth 20000 in
theorem ggX6_bent_X6_isMember : GoodIn wsX6_bent wsX6_isMember := goodIn_r _ [5] (by decide +kernel) (by decide +kernel)
set_option maxRecDepth 20000 in
theorem gX6_bent_X6_isMember : GoodIn wsX6_bent (va_wsS RX6 34 yX6_isMember wsX6_isMember) := goodIn_app (goodIn_of _ (by decide +kernel)) ggX6_bent_X6_isMember
set_option maxRecDepth 20000 in
theorem ggX6_bent_X6_highestBend : GoodIn wsX6_bent wsX6_highestBend := goodIn_r _ [8] (by decide +kernel) (by decide +kernel)
set_option maxRecDepth 20000 in
theorem gX6_bent_X6_highestBend : GoodIn wsX6_bent (va_wsS RX6 45 yX6_highestBend wsX6_highestBend) := goodIn_app (goodIn_of _ (by decide +kernel)) ggX6_bent_X6_highestBend
theorem dX6_bent_0 : decode cX6_bent 0 = .ok (.iload_n 1, 1) := by decide +kernel
theorem dX6_bent_1 : decode cX6_bent 1 = .ok (.invokestatic 34, 3) := by decide +kernel
theorem dX6_bent_4 : decode cX6_bent 4 = .ok (.ifCond .ne 5, 3) := by decide +kernel
theorem dX6_bent_7 : decode cX6_bent 7 = .ok (.iconst (-1), 1) := by decide +kernel
theorem dX6_bent_8 : decode cX6_bent 8 = .ok (.ireturn, 1) := by decide +kernel
theorem dX6_bent_9 : decode cX6_bent 9 = .ok (.iload_n 2, 1) := by decide +kernel
theorem dX6_bent_10 : decode cX6_bent 10 = .ok (.ifCond .lt 20, 3) := by decide +kernel
theorem dX6_bent_13 : decode cX6_bent 13 = .ok (.iload_n 2, 1) := by decide +kernel
theorem dX6_bent_14 : decode cX6_bent 14 = .ok (.iconst 5, 1) := by decide +kernel
theorem dX6_bent_15 : decode cX6_bent 15 = .ok (.if_icmp .ge 15, 3) := by decide +kernel
theorem dX6_bent_18 : decode cX6_bent 18 = .ok (.iload_n 3, 1) := by decide +kernel
theorem dX6_bent_19 : decode cX6_bent 19 = .ok (.ifCond .lt 11, 3) := by decide +kernel
theorem dX6_bent_22 : decode cX6_bent 22 = .ok (.iload_n 3, 1) := by decide +kernel
theorem dX6_bent_23 : decode cX6_bent 23 = .ok (.iload_n 2, 1) := by decide +kernel
theorem dX6_bent_24 : decode cX6_bent 24 = .ok (.invokestatic 45, 3) := by decide +kernel
theorem dX6_bent_27 : decode cX6_bent 27 = .ok (.if_icmp .le 6, 3) := by decide +kernel
theorem dX6_bent_30 : decode cX6_bent 30 = .ok (.bipush (-2), 2) := by decide +kernel
theorem dX6_bent_32 : decode cX6_bent 32 = .ok (.ireturn, 1) := by decide +kernel
theorem dX6_bent_33 : decode cX6_bent 33 = .ok (.iload_n 1, 1) := by decide +kernel
theorem dX6_bent_34 : decode cX6_bent 34 = .ok (.iconst 5, 1) := by decide +kernel
theorem dX6_bent_35 : decode cX6_bent 35 = .ok (.imul, 1) := by decide +kernel
theorem dX6_bent_36 : decode cX6_bent 36 = .ok (.iload_n 2, 1) := by decide +kernel
theorem dX6_bent_37 : decode cX6_bent 37 = .ok (.iadd, 1) := by decide +kernel
theorem dX6_bent_38 : decode cX6_bent 38 = .ok (.istore 4, 2) := by decide +kernel
theorem dX6_bent_40 : decode cX6_bent 40 = .ok (.aload_n 0, 1) := by decide +kernel
theorem dX6_bent_41 : decode cX6_bent 41 = .ok (.getfield 27, 3) := by decide +kernel
theorem dX6_bent_44 : decode cX6_bent 44 = .ok (.getfield 49, 3) := by decide +kernel
theorem dX6_bent_47 : decode cX6_bent 47 = .ok (.iload 4, 2) := by decide +kernel
theorem dX6_bent_49 : decode cX6_bent 49 = .ok (.iaload, 1) := by decide +kernel
theorem dX6_bent_50 : decode cX6_bent 50 = .ok (.istore 5, 2) := by decide +kernel
theorem dX6_bent_52 : decode cX6_bent 52 = .ok (.aload_n 0, 1) := by decide +kernel
theorem dX6_bent_53 : decode cX6_bent 53 = .ok (.getfield 27, 3) := by decide +kernel
theorem dX6_bent_56 : decode cX6_bent 56 = .ok (.getfield 49, 3) := by decide +kernel
theorem dX6_bent_59 : decode cX6_bent 59 = .ok (.iload 4, 2) := by decide +kernel
theorem dX6_bent_61 : decode cX6_bent 61 = .ok (.iload_n 3, 1) := by decide +kernel
theorem dX6_bent_62 : decode cX6_bent 62 = .ok (.iastore, 1) := by decide +kernel
theorem dX6_bent_63 : decode cX6_bent 63 = .ok (.iload 5, 2) := by decide +kernel
theorem dX6_bent_65 : decode cX6_bent 65 = .ok (.ireturn, 1) := by decide +kernel
set_option maxRecDepth 20000 in
theorem ggX6_member_X6_isMember : GoodIn wsX6_member wsX6_isMember := goodIn_r _ [5] (by decide +kernel) (by decide +kernel)
set_option maxRecDepth 20000 in
theorem gX6_member_X6_isMember : GoodIn wsX6_member (va_wsS RX6 34 yX6_isMember wsX6_isMember) := goodIn_app (goodIn_of _ (by decide +kernel)) ggX6_member_X6_isMember
set_option maxRecDepth 20000 in
theorem ggX6_member_X6_shareFacts : GoodIn wsX6_member wsX6_shareFacts := goodIn_r _ [9, 1, 10, 11, 12, 13, 14, 15, 16, 17, 18, 19, 20, 21, 22, 23, 24, 25, 26, 27, 28, 29, 30, 31, 32, 33, 34, 35, 36, 37, 38, 39, 40, 41, 42, 43, 44, 45, 46, 47, 48, 49, 50, 51, 52, 53, 54, 55, 56, 57, 58, 59, 60] (by decide +kernel) (by decide +kernel)
set_option maxRecDepth 20000 in
theorem gX6_member_X6_shareFacts : GoodIn wsX6_member (wsV RX6 52 RX6 yX6_shareFacts wsX6_shareFacts) := goodIn_app (goodIn_of _ (by decide +kernel)) ggX6_member_X6_shareFacts
theorem dX6_member_0 : decode cX6_member 0 = .ok (.iload_n 1, 1) := by decide +kernel
theorem dX6_member_1 : decode cX6_member 1 = .ok (.invokestatic 34, 3) := by decide +kernel
theorem dX6_member_4 : decode cX6_member 4 = .ok (.ifCond .ne 5, 3) := by decide +kernel
theorem dX6_member_7 : decode cX6_member 7 = .ok (.iconst (-1), 1) := by decide +kernel
theorem dX6_member_8 : decode cX6_member 8 = .ok (.ireturn, 1) := by decide +kernel
theorem dX6_member_9 : decode cX6_member 9 = .ok (.iload_n 2, 1) := by decide +kernel
theorem dX6_member_10 : decode cX6_member 10 = .ok (.ifCond .lt 15, 3) := by decide +kernel
theorem dX6_member_13 : decode cX6_member 13 = .ok (.iload_n 2, 1) := by decide +kernel
theorem dX6_member_14 : decode cX6_member 14 = .ok (.iconst 2, 1) := by decide +kernel
theorem dX6_member_15 : decode cX6_member 15 = .ok (.if_icmp .gt 10, 3) := by decide +kernel
theorem dX6_member_18 : decode cX6_member 18 = .ok (.aload_n 0, 1) := by decide +kernel
theorem dX6_member_19 : decode cX6_member 19 = .ok (.iload_n 1, 1) := by decide +kernel
theorem dX6_member_20 : decode cX6_member 20 = .ok (.iload_n 2, 1) := by decide +kernel
theorem dX6_member_21 : decode cX6_member 21 = .ok (.invokevirtual 52, 3) := by decide +kernel
theorem dX6_member_24 : decode cX6_member 24 = .ok (.ireturn, 1) := by decide +kernel
theorem dX6_member_25 : decode cX6_member 25 = .ok (.iload_n 2, 1) := by decide +kernel
theorem dX6_member_26 : decode cX6_member 26 = .ok (.iconst 3, 1) := by decide +kernel
theorem dX6_member_27 : decode cX6_member 27 = .ok (.if_icmp .lt 25, 3) := by decide +kernel
theorem dX6_member_30 : decode cX6_member 30 = .ok (.iload_n 2, 1) := by decide +kernel
theorem dX6_member_31 : decode cX6_member 31 = .ok (.bipush 8, 2) := by decide +kernel
theorem dX6_member_33 : decode cX6_member 33 = .ok (.if_icmp .ge 19, 3) := by decide +kernel
theorem dX6_member_36 : decode cX6_member 36 = .ok (.aload_n 0, 1) := by decide +kernel
theorem dX6_member_37 : decode cX6_member 37 = .ok (.getfield 27, 3) := by decide +kernel
theorem dX6_member_40 : decode cX6_member 40 = .ok (.getfield 49, 3) := by decide +kernel
theorem dX6_member_43 : decode cX6_member 43 = .ok (.iload_n 1, 1) := by decide +kernel
theorem dX6_member_44 : decode cX6_member 44 = .ok (.iconst 5, 1) := by decide +kernel
theorem dX6_member_45 : decode cX6_member 45 = .ok (.imul, 1) := by decide +kernel
theorem dX6_member_46 : decode cX6_member 46 = .ok (.iload_n 2, 1) := by decide +kernel
theorem dX6_member_47 : decode cX6_member 47 = .ok (.iadd, 1) := by decide +kernel
theorem dX6_member_48 : decode cX6_member 48 = .ok (.iconst 3, 1) := by decide +kernel
theorem dX6_member_49 : decode cX6_member 49 = .ok (.isub, 1) := by decide +kernel
theorem dX6_member_50 : decode cX6_member 50 = .ok (.iaload, 1) := by decide +kernel
theorem dX6_member_51 : decode cX6_member 51 = .ok (.ireturn, 1) := by decide +kernel
theorem dX6_member_52 : decode cX6_member 52 = .ok (.iload_n 2, 1) := by decide +kernel
theorem dX6_member_53 : decode cX6_member 53 = .ok (.bipush 10, 2) := by decide +kernel
theorem dX6_member_55 : decode cX6_member 55 = .ok (.if_icmp .lt 26, 3) := by decide +kernel
theorem dX6_member_58 : decode cX6_member 58 = .ok (.iload_n 2, 1) := by decide +kernel
theorem dX6_member_59 : decode cX6_member 59 = .ok (.bipush 15, 2) := by decide +kernel
theorem dX6_member_61 : decode cX6_member 61 = .ok (.if_icmp .ge 20, 3) := by decide +kernel
theorem dX6_member_64 : decode cX6_member 64 = .ok (.aload_n 0, 1) := by decide +kernel
theorem dX6_member_65 : decode cX6_member 65 = .ok (.getfield 27, 3) := by decide +kernel
theorem dX6_member_68 : decode cX6_member 68 = .ok (.getfield 41, 3) := by decide +kernel
theorem dX6_member_71 : decode cX6_member 71 = .ok (.iload_n 1, 1) := by decide +kernel
theorem dX6_member_72 : decode cX6_member 72 = .ok (.iconst 5, 1) := by decide +kernel
theorem dX6_member_73 : decode cX6_member 73 = .ok (.imul, 1) := by decide +kernel
theorem dX6_member_74 : decode cX6_member 74 = .ok (.iload_n 2, 1) := by decide +kernel
theorem dX6_member_75 : decode cX6_member 75 = .ok (.iadd, 1) := by decide +kernel
theorem dX6_member_76 : decode cX6_member 76 = .ok (.bipush 10, 2) := by decide +kernel
theorem dX6_member_78 : decode cX6_member 78 = .ok (.isub, 1) := by decide +kernel
theorem dX6_member_79 : decode cX6_member 79 = .ok (.iaload, 1) := by decide +kernel
theorem dX6_member_80 : decode cX6_member 80 = .ok (.ireturn, 1) := by decide +kernel
theorem dX6_member_81 : decode cX6_member 81 = .ok (.bipush (-2), 2) := by decide +kernel
theorem dX6_member_83 : decode cX6_member 83 = .ok (.ireturn, 1) := by decide +kernel
set_option maxRecDepth 20000 in
theorem ggX6_say_X3_append : GoodIn wsX6_say wsX3_append := goodIn_r _ [6, 7, 8, 13, 14] (by decide +kernel) (by decide +kernel)
set_option maxRecDepth 20000 in
theorem gX6_say_X3_append : GoodIn wsX6_say (wsV RX6 56 RX3 yX3_append wsX3_append) := goodIn_app (goodIn_of _ (by decide +kernel)) ggX6_say_X3_append
theorem dX6_say_0 : decode cX6_say 0 = .ok (.iload_n 1, 1) := by decide +kernel
theorem dX6_say_1 : decode cX6_say 1 = .ok (.bipush 33, 2) := by decide +kernel
theorem dX6_say_3 : decode cX6_say 3 = .ok (.if_icmp .lt 9, 3) := by decide +kernel
theorem dX6_say_6 : decode cX6_say 6 = .ok (.iload_n 1, 1) := by decide +kernel
theorem dX6_say_7 : decode cX6_say 7 = .ok (.bipush 126, 2) := by decide +kernel
theorem dX6_say_9 : decode cX6_say 9 = .ok (.if_icmp .le 6, 3) := by decide +kernel
theorem dX6_say_12 : decode cX6_say 12 = .ok (.bipush (-2), 2) := by decide +kernel
theorem dX6_say_14 : decode cX6_say 14 = .ok (.ireturn, 1) := by decide +kernel
theorem dX6_say_15 : decode cX6_say 15 = .ok (.aload_n 0, 1) := by decide +kernel
theorem dX6_say_16 : decode cX6_say 16 = .ok (.getfield 10, 3) := by decide +kernel
theorem dX6_say_19 : decode cX6_say 19 = .ok (.iload_n 1, 1) := by decide +kernel
theorem dX6_say_20 : decode cX6_say 20 = .ok (.invokevirtual 56, 3) := by decide +kernel
theorem dX6_say_23 : decode cX6_say 23 = .ok (.ifCond .eq 13, 3) := by decide +kernel
theorem dX6_say_26 : decode cX6_say 26 = .ok (.aload_n 0, 1) := by decide +kernel
theorem dX6_say_27 : decode cX6_say 27 = .ok (.getfield 10, 3) := by decide +kernel
theorem dX6_say_30 : decode cX6_say 30 = .ok (.getfield 59, 3) := by decide +kernel
theorem dX6_say_33 : decode cX6_say 33 = .ok (.goto 5, 3) := by decide +kernel
theorem dX6_say_36 : decode cX6_say 36 = .ok (.bipush (-4), 2) := by decide +kernel
theorem dX6_say_38 : decode cX6_say 38 = .ok (.ireturn, 1) := by decide +kernel
theorem dX6_wipe_0 : decode cX6_wipe 0 = .ok (.aload_n 0, 1) := by decide +kernel
theorem dX6_wipe_1 : decode cX6_wipe 1 = .ok (.getfield 10, 3) := by decide +kernel
theorem dX6_wipe_4 : decode cX6_wipe 4 = .ok (.getfield 59, 3) := by decide +kernel
theorem dX6_wipe_7 : decode cX6_wipe 7 = .ok (.istore_n 1, 1) := by decide +kernel
theorem dX6_wipe_8 : decode cX6_wipe 8 = .ok (.aload_n 0, 1) := by decide +kernel
theorem dX6_wipe_9 : decode cX6_wipe 9 = .ok (.getfield 10, 3) := by decide +kernel
theorem dX6_wipe_12 : decode cX6_wipe 12 = .ok (.iconst 0, 1) := by decide +kernel
theorem dX6_wipe_13 : decode cX6_wipe 13 = .ok (.putfield 59, 3) := by decide +kernel
theorem dX6_wipe_16 : decode cX6_wipe 16 = .ok (.iload_n 1, 1) := by decide +kernel
theorem dX6_wipe_17 : decode cX6_wipe 17 = .ok (.ireturn, 1) := by decide +kernel
set_option maxRecDepth 20000 in
theorem ggX6_fault_X3_faultPlace : GoodIn wsX6_fault wsX3_faultPlace := goodIn_r _ [6, 7, 8, 9, 10, 5, 11, 12, 13, 14, 15, 16, 17, 18, 19, 20, 21, 22, 23, 24, 25, 26, 27, 28, 29, 30, 31, 32, 33, 34, 35, 36, 37, 38, 43, 44] (by decide +kernel) (by decide +kernel)
set_option maxRecDepth 20000 in
theorem gX6_fault_X3_faultPlace : GoodIn wsX6_fault (wsV RX6 63 RX3 yX3_faultPlace wsX3_faultPlace) := goodIn_app (goodIn_of _ (by decide +kernel)) ggX6_fault_X3_faultPlace
theorem dX6_fault_0 : decode cX6_fault 0 = .ok (.aload_n 0, 1) := by decide +kernel
theorem dX6_fault_1 : decode cX6_fault 1 = .ok (.getfield 10, 3) := by decide +kernel
theorem dX6_fault_4 : decode cX6_fault 4 = .ok (.invokevirtual 63, 3) := by decide +kernel
theorem dX6_fault_7 : decode cX6_fault 7 = .ok (.ireturn, 1) := by decide +kernel
set_option maxRecDepth 20000 in
theorem ggX6_act_X3_faultPlace : GoodIn wsX6_act wsX3_faultPlace := goodIn_r _ [8, 9, 10, 11, 12, 7, 13, 14, 15, 16, 17, 18, 19, 20, 21, 22, 23, 24, 25, 26, 27, 28, 29, 30, 31, 32, 33, 34, 35, 36, 37, 38, 39, 40, 231, 232] (by decide +kernel) (by decide +kernel)
set_option maxRecDepth 20000 in
theorem gX6_act_X3_faultPlace : GoodIn wsX6_act (wsV RX6 63 RX3 yX3_faultPlace wsX3_faultPlace) := goodIn_app (goodIn_of _ (by decide +kernel)) ggX6_act_X3_faultPlace
set_option maxRecDepth 20000 in
theorem ggX6_act_X2_perform : GoodIn wsX6_act wsX2_perform := goodIn_r _ [45, 46, 47, 15, 16, 7, 17, 18, 19, 20, 21, 9, 22, 48, 49, 50, 51, 52, 53, 54, 55, 56, 44, 57, 58, 59, 60, 61, 62, 63, 64, 65, 66, 67, 68, 27, 28, 29, 69, 70, 71, 72, 30, 31, 32, 33, 14, 26, 34, 35, 36, 73, 74, 75, 76, 77, 78, 79, 80, 81, 82, 83, 84, 85, 86, 87, 88, 89, 90, 91, 92, 93, 94, 95, 96, 97, 98, 99, 100, 101, 102, 103, 104, 105, 106, 107, 108, 109, 110, 111, 112, 113, 114, 115, 116, 117, 118, 119, 120, 121, 122, 123, 124, 125, 126, 127, 128, 129, 130, 131, 132, 133, 134, 135, 136, 137, 138, 139, 140, 141, 142, 143, 144, 145, 146, 147, 148, 149, 150, 151, 152, 153, 154, 155, 156, 157, 158, 159, 160, 161, 162, 163, 164, 165, 166, 167, 168, 169, 170, 171, 172, 173, 174, 175, 176, 177, 178, 179, 180, 181, 182, 183, 184, 185, 186, 187, 188, 189, 190, 191, 192, 193, 194, 195, 196, 197, 198, 199, 200, 201, 202, 203, 204, 205, 206, 207, 208, 209, 210, 211, 212, 213, 214, 215, 216, 217, 218, 219, 220, 221, 222, 223, 224, 225, 226, 245, 246, 247, 248, 249, 250, 233, 234, 235, 236, 237, 238, 239, 240, 241, 242, 243, 244, 231, 232, 251, 252, 253, 254] (by decide +kernel) (by decide +kernel)
set_option maxRecDepth 20000 in
theorem gX6_act_X2_perform : GoodIn wsX6_act (wsV RX6 67 RX2 yX2_perform wsX2_perform) := goodIn_app (goodIn_of _ (by decide +kernel)) ggX6_act_X2_perform
theorem dX6_act_0 : decode cX6_act 0 = .ok (.aload_n 0, 1) := by decide +kernel
theorem dX6_act_1 : decode cX6_act 1 = .ok (.getfield 10, 3) := by decide +kernel
theorem dX6_act_4 : decode cX6_act 4 = .ok (.invokevirtual 63, 3) := by decide +kernel
theorem dX6_act_7 : decode cX6_act 7 = .ok (.bipush (-6), 2) := by decide +kernel
theorem dX6_act_9 : decode cX6_act 9 = .ok (.if_icmp .eq 6, 3) := by decide +kernel
theorem dX6_act_12 : decode cX6_act 12 = .ok (.bipush (-7), 2) := by decide +kernel
theorem dX6_act_14 : decode cX6_act 14 = .ok (.ireturn, 1) := by decide +kernel
theorem dX6_act_15 : decode cX6_act 15 = .ok (.aload_n 0, 1) := by decide +kernel
theorem dX6_act_16 : decode cX6_act 16 = .ok (.getfield 19, 3) := by decide +kernel
theorem dX6_act_19 : decode cX6_act 19 = .ok (.aload_n 0, 1) := by decide +kernel
theorem dX6_act_20 : decode cX6_act 20 = .ok (.getfield 10, 3) := by decide +kernel
theorem dX6_act_23 : decode cX6_act 23 = .ok (.invokevirtual 67, 3) := by decide +kernel
theorem dX6_act_26 : decode cX6_act 26 = .ok (.istore_n 1, 1) := by decide +kernel
theorem dX6_act_27 : decode cX6_act 27 = .ok (.iload_n 1, 1) := by decide +kernel
theorem dX6_act_28 : decode cX6_act 28 = .ok (.ifCond .lt 24, 3) := by decide +kernel
theorem dX6_act_31 : decode cX6_act 31 = .ok (.aload_n 0, 1) := by decide +kernel
theorem dX6_act_32 : decode cX6_act 32 = .ok (.getfield 10, 3) := by decide +kernel
theorem dX6_act_35 : decode cX6_act 35 = .ok (.iconst 0, 1) := by decide +kernel
theorem dX6_act_36 : decode cX6_act 36 = .ok (.putfield 59, 3) := by decide +kernel
theorem dX6_act_39 : decode cX6_act 39 = .ok (.aload_n 0, 1) := by decide +kernel
theorem dX6_act_40 : decode cX6_act 40 = .ok (.getfield 27, 3) := by decide +kernel
theorem dX6_act_43 : decode cX6_act 43 = .ok (.dup, 1) := by decide +kernel
theorem dX6_act_44 : decode cX6_act 44 = .ok (.getfield 71, 3) := by decide +kernel
theorem dX6_act_47 : decode cX6_act 47 = .ok (.iconst 1, 1) := by decide +kernel
theorem dX6_act_48 : decode cX6_act 48 = .ok (.iadd, 1) := by decide +kernel
theorem dX6_act_49 : decode cX6_act 49 = .ok (.putfield 71, 3) := by decide +kernel
theorem dX6_act_52 : decode cX6_act 52 = .ok (.iload_n 1, 1) := by decide +kernel
theorem dX6_act_53 : decode cX6_act 53 = .ok (.ireturn, 1) := by decide +kernel
theorem dX6_named_0 : decode cX6_named 0 = .ok (.iload_n 1, 1) := by decide +kernel
theorem dX6_named_1 : decode cX6_named 1 = .ok (.ifCond .ne 11, 3) := by decide +kernel
theorem dX6_named_4 : decode cX6_named 4 = .ok (.aload_n 0, 1) := by decide +kernel
theorem dX6_named_5 : decode cX6_named 5 = .ok (.getfield 27, 3) := by decide +kernel
theorem dX6_named_8 : decode cX6_named 8 = .ok (.getfield 74, 3) := by decide +kernel
theorem dX6_named_11 : decode cX6_named 11 = .ok (.ireturn, 1) := by decide +kernel
theorem dX6_named_12 : decode cX6_named 12 = .ok (.iload_n 1, 1) := by decide +kernel
theorem dX6_named_13 : decode cX6_named 13 = .ok (.iconst 1, 1) := by decide +kernel
theorem dX6_named_14 : decode cX6_named 14 = .ok (.if_icmp .ne 13, 3) := by decide +kernel
theorem dX6_named_17 : decode cX6_named 17 = .ok (.aload_n 0, 1) := by decide +kernel
theorem dX6_named_18 : decode cX6_named 18 = .ok (.getfield 27, 3) := by decide +kernel
theorem dX6_named_21 : decode cX6_named 21 = .ok (.getfield 77, 3) := by decide +kernel
theorem dX6_named_24 : decode cX6_named 24 = .ok (.goto 5, 3) := by decide +kernel
theorem dX6_named_27 : decode cX6_named 27 = .ok (.bipush (-2), 2) := by decide +kernel
theorem dX6_named_29 : decode cX6_named 29 = .ok (.ireturn, 1) := by decide +kernel
set_option maxRecDepth 20000 in
theorem ggX6_fits_X6_isValue : GoodIn wsX6_fits wsX6_isValue := goodIn_r _ [5] (by decide +kernel) (by decide +kernel)
set_option maxRecDepth 20000 in
theorem gX6_fits_X6_isValue : GoodIn wsX6_fits (va_wsS RX6 38 yX6_isValue wsX6_isValue) := goodIn_app (goodIn_of _ (by decide +kernel)) ggX6_fits_X6_isValue
set_option maxRecDepth 20000 in
theorem ggX6_fits_X0_isDealt : GoodIn wsX6_fits wsX0_isDealt := goodIn_r _ [10, 11, 33, 34, 35, 36, 37, 38, 39, 40, 41, 42, 43, 44] (by decide +kernel) (by decide +kernel)
set_option maxRecDepth 20000 in
theorem gX6_fits_X0_isDealt : GoodIn wsX6_fits (wsV RX6 80 RX0 yX0_isDealt wsX0_isDealt) := goodIn_app (goodIn_of _ (by decide +kernel)) ggX6_fits_X0_isDealt
set_option maxRecDepth 20000 in
theorem ggX6_fits_X5_fitting : GoodIn wsX6_fits wsX5_fitting := goodIn_r _ [15, 16, 17, 18, 19, 20, 21, 14, 22, 23, 24, 25, 26, 27, 28] (by decide +kernel) (by decide +kernel)
set_option maxRecDepth 20000 in
theorem gX6_fits_X5_fitting : GoodIn wsX6_fits (va_wsS RX6 90 yX5_fitting wsX5_fitting) := goodIn_app (goodIn_of _ (by decide +kernel)) ggX6_fits_X5_fitting
theorem dX6_fits_0 : decode cX6_fits 0 = .ok (.iload_n 1, 1) := by decide +kernel
theorem dX6_fits_1 : decode cX6_fits 1 = .ok (.invokestatic 38, 3) := by decide +kernel
theorem dX6_fits_4 : decode cX6_fits 4 = .ok (.ifCond .eq 10, 3) := by decide +kernel
theorem dX6_fits_7 : decode cX6_fits 7 = .ok (.iload_n 2, 1) := by decide +kernel
theorem dX6_fits_8 : decode cX6_fits 8 = .ok (.invokestatic 38, 3) := by decide +kernel
theorem dX6_fits_11 : decode cX6_fits 11 = .ok (.ifCond .ne 6, 3) := by decide +kernel
theorem dX6_fits_14 : decode cX6_fits 14 = .ok (.bipush (-2), 2) := by decide +kernel
theorem dX6_fits_16 : decode cX6_fits 16 = .ok (.ireturn, 1) := by decide +kernel
theorem dX6_fits_17 : decode cX6_fits 17 = .ok (.aload_n 0, 1) := by decide +kernel
theorem dX6_fits_18 : decode cX6_fits 18 = .ok (.getfield 27, 3) := by decide +kernel
theorem dX6_fits_21 : decode cX6_fits 21 = .ok (.invokevirtual 80, 3) := by decide +kernel
theorem dX6_fits_24 : decode cX6_fits 24 = .ok (.ifCond .ne 6, 3) := by decide +kernel
theorem dX6_fits_27 : decode cX6_fits 27 = .ok (.bipush (-3), 2) := by decide +kernel
theorem dX6_fits_29 : decode cX6_fits 29 = .ok (.ireturn, 1) := by decide +kernel
theorem dX6_fits_30 : decode cX6_fits 30 = .ok (.iload_n 1, 1) := by decide +kernel
theorem dX6_fits_31 : decode cX6_fits 31 = .ok (.iload_n 2, 1) := by decide +kernel
theorem dX6_fits_32 : decode cX6_fits 32 = .ok (.aload_n 0, 1) := by decide +kernel
theorem dX6_fits_33 : decode cX6_fits 33 = .ok (.getfield 27, 3) := by decide +kernel
theorem dX6_fits_36 : decode cX6_fits 36 = .ok (.getfield 84, 3) := by decide +kernel
theorem dX6_fits_39 : decode cX6_fits 39 = .ok (.aload_n 0, 1) := by decide +kernel
theorem dX6_fits_40 : decode cX6_fits 40 = .ok (.getfield 27, 3) := by decide +kernel
theorem dX6_fits_43 : decode cX6_fits 43 = .ok (.getfield 87, 3) := by decide +kernel
theorem dX6_fits_46 : decode cX6_fits 46 = .ok (.invokestatic 90, 3) := by decide +kernel
theorem dX6_fits_49 : decode cX6_fits 49 = .ok (.ifCond .eq 7, 3) := by decide +kernel
theorem dX6_fits_52 : decode cX6_fits 52 = .ok (.iconst 1, 1) := by decide +kernel
theorem dX6_fits_53 : decode cX6_fits 53 = .ok (.goto 4, 3) := by decide +kernel
theorem dX6_fits_56 : decode cX6_fits 56 = .ok (.iconst 0, 1) := by decide +kernel
theorem dX6_fits_57 : decode cX6_fits 57 = .ok (.ireturn, 1) := by decide +kernel
set_option maxRecDepth 20000 in
theorem ggX6_seal_X0_isDealt : GoodIn wsX6_seal wsX0_isDealt := goodIn_r _ [6, 7, 12, 13, 14, 15, 16, 17, 18, 19, 20, 21, 22, 23] (by decide +kernel) (by decide +kernel)
set_option maxRecDepth 20000 in
theorem gX6_seal_X0_isDealt : GoodIn wsX6_seal (wsV RX6 80 RX0 yX0_isDealt wsX0_isDealt) := goodIn_app (goodIn_of _ (by decide +kernel)) ggX6_seal_X0_isDealt
theorem dX6_seal_0 : decode cX6_seal 0 = .ok (.aload_n 0, 1) := by decide +kernel
theorem dX6_seal_1 : decode cX6_seal 1 = .ok (.getfield 27, 3) := by decide +kernel
theorem dX6_seal_4 : decode cX6_seal 4 = .ok (.invokevirtual 80, 3) := by decide +kernel
theorem dX6_seal_7 : decode cX6_seal 7 = .ok (.ifCond .ne 6, 3) := by decide +kernel
theorem dX6_seal_10 : decode cX6_seal 10 = .ok (.bipush (-3), 2) := by decide +kernel
theorem dX6_seal_12 : decode cX6_seal 12 = .ok (.ireturn, 1) := by decide +kernel
theorem dX6_seal_13 : decode cX6_seal 13 = .ok (.iload_n 1, 1) := by decide +kernel
theorem dX6_seal_14 : decode cX6_seal 14 = .ok (.ifCond .lt 19, 3) := by decide +kernel
theorem dX6_seal_17 : decode cX6_seal 17 = .ok (.iload_n 1, 1) := by decide +kernel
theorem dX6_seal_18 : decode cX6_seal 18 = .ok (.iconst 5, 1) := by decide +kernel
theorem dX6_seal_19 : decode cX6_seal 19 = .ok (.if_icmp .ge 14, 3) := by decide +kernel
theorem dX6_seal_22 : decode cX6_seal 22 = .ok (.iload_n 1, 1) := by decide +kernel
theorem dX6_seal_23 : decode cX6_seal 23 = .ok (.aload_n 0, 1) := by decide +kernel
theorem dX6_seal_24 : decode cX6_seal 24 = .ok (.getfield 27, 3) := by decide +kernel
theorem dX6_seal_27 : decode cX6_seal 27 = .ok (.getfield 87, 3) := by decide +kernel
theorem dX6_seal_30 : decode cX6_seal 30 = .ok (.if_icmp .lt 6, 3) := by decide +kernel
theorem dX6_seal_33 : decode cX6_seal 33 = .ok (.bipush (-6), 2) := by decide +kernel
theorem dX6_seal_35 : decode cX6_seal 35 = .ok (.ireturn, 1) := by decide +kernel
theorem dX6_seal_36 : decode cX6_seal 36 = .ok (.aload_n 0, 1) := by decide +kernel
theorem dX6_seal_37 : decode cX6_seal 37 = .ok (.getfield 27, 3) := by decide +kernel
theorem dX6_seal_40 : decode cX6_seal 40 = .ok (.getfield 84, 3) := by decide +kernel
theorem dX6_seal_43 : decode cX6_seal 43 = .ok (.iload_n 1, 1) := by decide +kernel
theorem dX6_seal_44 : decode cX6_seal 44 = .ok (.iaload, 1) := by decide +kernel
theorem dX6_seal_45 : decode cX6_seal 45 = .ok (.ireturn, 1) := by decide +kernel
set_option maxRecDepth 20000 in
theorem ggX6_weighs_X6_isValue : GoodIn wsX6_weighs wsX6_isValue := goodIn_r _ [4] (by decide +kernel) (by decide +kernel)
set_option maxRecDepth 20000 in
theorem gX6_weighs_X6_isValue : GoodIn wsX6_weighs (va_wsS RX6 38 yX6_isValue wsX6_isValue) := goodIn_app (goodIn_of _ (by decide +kernel)) ggX6_weighs_X6_isValue
set_option maxRecDepth 20000 in
theorem ggX6_weighs_X6_isMember : GoodIn wsX6_weighs wsX6_isMember := goodIn_r _ [7] (by decide +kernel) (by decide +kernel)
set_option maxRecDepth 20000 in
theorem gX6_weighs_X6_isMember : GoodIn wsX6_weighs (va_wsS RX6 34 yX6_isMember wsX6_isMember) := goodIn_app (goodIn_of _ (by decide +kernel)) ggX6_weighs_X6_isMember
set_option maxRecDepth 20000 in
theorem ggX6_weighs_X4_has : GoodIn wsX6_weighs wsX4_has := goodIn_r _ [11] (by decide +kernel) (by decide +kernel)
set_option maxRecDepth 20000 in
theorem gX6_weighs_X4_has : GoodIn wsX6_weighs (va_wsS RX6 96 yX4_has wsX4_has) := goodIn_app (goodIn_of _ (by decide +kernel)) ggX6_weighs_X4_has
set_option maxRecDepth 20000 in
theorem ggX6_weighs_X5_weight : GoodIn wsX6_weighs wsX5_weight := goodIn_r _ [15, 16, 9, 10, 11, 17, 18, 14, 19, 20, 21, 22, 23, 24, 25] (by decide +kernel) (by decide +kernel)
set_option maxRecDepth 20000 in
theorem gX6_weighs_X5_weight : GoodIn wsX6_weighs (va_wsS RX6 102 yX5_weight wsX5_weight) := goodIn_app (goodIn_of _ (by decide +kernel)) ggX6_weighs_X5_weight
theorem dX6_weighs_0 : decode cX6_weighs 0 = .ok (.iload_n 3, 1) := by decide +kernel
theorem dX6_weighs_1 : decode cX6_weighs 1 = .ok (.invokestatic 38, 3) := by decide +kernel
theorem dX6_weighs_4 : decode cX6_weighs 4 = .ok (.ifCond .eq 11, 3) := by decide +kernel
theorem dX6_weighs_7 : decode cX6_weighs 7 = .ok (.iload_n 2, 1) := by decide +kernel
theorem dX6_weighs_8 : decode cX6_weighs 8 = .ok (.sipush (-255), 3) := by decide +kernel
theorem dX6_weighs_11 : decode cX6_weighs 11 = .ok (.iand, 1) := by decide +kernel
theorem dX6_weighs_12 : decode cX6_weighs 12 = .ok (.ifCond .eq 6, 3) := by decide +kernel
theorem dX6_weighs_15 : decode cX6_weighs 15 = .ok (.bipush (-2), 2) := by decide +kernel
theorem dX6_weighs_17 : decode cX6_weighs 17 = .ok (.ireturn, 1) := by decide +kernel
theorem dX6_weighs_18 : decode cX6_weighs 18 = .ok (.iload_n 1, 1) := by decide +kernel
theorem dX6_weighs_19 : decode cX6_weighs 19 = .ok (.invokestatic 34, 3) := by decide +kernel
theorem dX6_weighs_22 : decode cX6_weighs 22 = .ok (.ifCond .eq 11, 3) := by decide +kernel
theorem dX6_weighs_25 : decode cX6_weighs 25 = .ok (.iload_n 2, 1) := by decide +kernel
theorem dX6_weighs_26 : decode cX6_weighs 26 = .ok (.iload_n 1, 1) := by decide +kernel
theorem dX6_weighs_27 : decode cX6_weighs 27 = .ok (.invokestatic 96, 3) := by decide +kernel
theorem dX6_weighs_30 : decode cX6_weighs 30 = .ok (.ifCond .ne 5, 3) := by decide +kernel
theorem dX6_weighs_33 : decode cX6_weighs 33 = .ok (.iconst (-1), 1) := by decide +kernel
theorem dX6_weighs_34 : decode cX6_weighs 34 = .ok (.ireturn, 1) := by decide +kernel
theorem dX6_weighs_35 : decode cX6_weighs 35 = .ok (.iload_n 1, 1) := by decide +kernel
theorem dX6_weighs_36 : decode cX6_weighs 36 = .ok (.iload_n 2, 1) := by decide +kernel
theorem dX6_weighs_37 : decode cX6_weighs 37 = .ok (.iload_n 3, 1) := by decide +kernel
theorem dX6_weighs_38 : decode cX6_weighs 38 = .ok (.invokestatic 102, 3) := by decide +kernel
theorem dX6_weighs_41 : decode cX6_weighs 41 = .ok (.ireturn, 1) := by decide +kernel
theorem dX6_loot_0 : decode cX6_loot 0 = .ok (.iload_n 2, 1) := by decide +kernel
theorem dX6_loot_1 : decode cX6_loot 1 = .ok (.ifCond .lt 8, 3) := by decide +kernel
theorem dX6_loot_4 : decode cX6_loot 4 = .ok (.iload_n 2, 1) := by decide +kernel
theorem dX6_loot_5 : decode cX6_loot 5 = .ok (.iconst 2, 1) := by decide +kernel
theorem dX6_loot_6 : decode cX6_loot 6 = .ok (.if_icmp .le 6, 3) := by decide +kernel
theorem dX6_loot_9 : decode cX6_loot 9 = .ok (.bipush (-2), 2) := by decide +kernel
theorem dX6_loot_11 : decode cX6_loot 11 = .ok (.ireturn, 1) := by decide +kernel
theorem dX6_loot_12 : decode cX6_loot 12 = .ok (.aload_n 0, 1) := by decide +kernel
theorem dX6_loot_13 : decode cX6_loot 13 = .ok (.getfield 27, 3) := by decide +kernel
theorem dX6_loot_16 : decode cX6_loot 16 = .ok (.getfield 106, 3) := by decide +kernel
theorem dX6_loot_19 : decode cX6_loot 19 = .ok (.astore_n 3, 1) := by decide +kernel
theorem dX6_loot_20 : decode cX6_loot 20 = .ok (.iload_n 1, 1) := by decide +kernel
theorem dX6_loot_21 : decode cX6_loot 21 = .ok (.ifCond .lt 17, 3) := by decide +kernel
theorem dX6_loot_24 : decode cX6_loot 24 = .ok (.iload_n 1, 1) := by decide +kernel
theorem dX6_loot_25 : decode cX6_loot 25 = .ok (.aload_n 3, 1) := by decide +kernel
theorem dX6_loot_26 : decode cX6_loot 26 = .ok (.getfield 110, 3) := by decide +kernel
theorem dX6_loot_29 : decode cX6_loot 29 = .ok (.if_icmp .ge 9, 3) := by decide +kernel
theorem dX6_loot_32 : decode cX6_loot 32 = .ok (.iload_n 1, 1) := by decide +kernel
theorem dX6_loot_33 : decode cX6_loot 33 = .ok (.bipush 24, 2) := by decide +kernel
theorem dX6_loot_35 : decode cX6_loot 35 = .ok (.if_icmp .lt 6, 3) := by decide +kernel
theorem dX6_loot_38 : decode cX6_loot 38 = .ok (.bipush (-6), 2) := by decide +kernel
theorem dX6_loot_40 : decode cX6_loot 40 = .ok (.ireturn, 1) := by decide +kernel
theorem dX6_loot_41 : decode cX6_loot 41 = .ok (.iload_n 2, 1) := by decide +kernel
theorem dX6_loot_42 : decode cX6_loot 42 = .ok (.ifCond .ne 10, 3) := by decide +kernel
theorem dX6_loot_45 : decode cX6_loot 45 = .ok (.aload_n 3, 1) := by decide +kernel
theorem dX6_loot_46 : decode cX6_loot 46 = .ok (.getfield 115, 3) := by decide +kernel
theorem dX6_loot_49 : decode cX6_loot 49 = .ok (.iload_n 1, 1) := by decide +kernel
theorem dX6_loot_50 : decode cX6_loot 50 = .ok (.iaload, 1) := by decide +kernel
theorem dX6_loot_51 : decode cX6_loot 51 = .ok (.ireturn, 1) := by decide +kernel
theorem dX6_loot_52 : decode cX6_loot 52 = .ok (.iload_n 2, 1) := by decide +kernel
theorem dX6_loot_53 : decode cX6_loot 53 = .ok (.iconst 1, 1) := by decide +kernel
theorem dX6_loot_54 : decode cX6_loot 54 = .ok (.if_icmp .ne 12, 3) := by decide +kernel
theorem dX6_loot_57 : decode cX6_loot 57 = .ok (.aload_n 3, 1) := by decide +kernel
theorem dX6_loot_58 : decode cX6_loot 58 = .ok (.getfield 118, 3) := by decide +kernel
theorem dX6_loot_61 : decode cX6_loot 61 = .ok (.iload_n 1, 1) := by decide +kernel
theorem dX6_loot_62 : decode cX6_loot 62 = .ok (.iaload, 1) := by decide +kernel
theorem dX6_loot_63 : decode cX6_loot 63 = .ok (.goto 9, 3) := by decide +kernel
theorem dX6_loot_66 : decode cX6_loot 66 = .ok (.aload_n 3, 1) := by decide +kernel
theorem dX6_loot_67 : decode cX6_loot 67 = .ok (.getfield 121, 3) := by decide +kernel
theorem dX6_loot_70 : decode cX6_loot 70 = .ok (.iload_n 1, 1) := by decide +kernel
theorem dX6_loot_71 : decode cX6_loot 71 = .ok (.iaload, 1) := by decide +kernel
theorem dX6_loot_72 : decode cX6_loot 72 = .ok (.ireturn, 1) := by decide +kernel
set_option maxRecDepth 20000 in
theorem ggX6_worlds_X6_isValue : GoodIn wsX6_worlds wsX6_isValue := goodIn_r _ [6] (by decide +kernel) (by decide +kernel)
set_option maxRecDepth 20000 in
theorem gX6_worlds_X6_isValue : GoodIn wsX6_worlds (va_wsS RX6 38 yX6_isValue wsX6_isValue) := goodIn_app (goodIn_of _ (by decide +kernel)) ggX6_worlds_X6_isValue
set_option maxRecDepth 20000 in
theorem ggX6_worlds_X0_wasEpoch : GoodIn wsX6_worlds wsX0_wasEpoch := goodIn_r _ [11, 12, 85, 86, 87, 88, 89, 90, 91, 92, 93, 94, 95, 96] (by decide +kernel) (by decide +kernel)
set_option maxRecDepth 20000 in
theorem gX6_worlds_X0_wasEpoch : GoodIn wsX6_worlds (wsV RX6 124 RX0 yX0_wasEpoch wsX0_wasEpoch) := goodIn_app (goodIn_of _ (by decide +kernel)) ggX6_worlds_X0_wasEpoch
set_option maxRecDepth 20000 in
theorem ggX6_worlds_X2_worldsLeft : GoodIn wsX6_worlds wsX2_worldsLeft := goodIn_r _ [17, 18, 19, 20, 21, 10, 22, 23, 24, 8, 9, 11, 12, 25, 26, 27, 28, 29, 30, 31, 32, 33, 34, 35, 36, 37, 38, 39, 40, 41, 42, 43, 44, 45, 46, 16, 47, 48, 49, 50, 51, 52, 53, 54, 55, 56, 57, 58, 59, 60, 61, 62, 63, 64, 65, 66, 67, 68, 69, 70, 71, 72, 73, 74, 75, 76, 77, 78, 79, 80, 97, 98, 99, 100, 101, 102, 85, 86, 87, 88, 89, 90, 91, 92, 93, 94, 95, 96, 103, 104, 105, 106] (by decide +kernel) (by decide +kernel)
set_option maxRecDepth 20000 in
theorem gX6_worlds_X2_worldsLeft : GoodIn wsX6_worlds (wsV RX6 127 RX2 yX2_worldsLeft wsX2_worldsLeft) := goodIn_app (goodIn_of _ (by decide +kernel)) ggX6_worlds_X2_worldsLeft
theorem dX6_worlds_0 : decode cX6_worlds 0 = .ok (.iload_n 2, 1) := by decide +kernel
theorem dX6_worlds_1 : decode cX6_worlds 1 = .ok (.invokestatic 38, 3) := by decide +kernel
theorem dX6_worlds_4 : decode cX6_worlds 4 = .ok (.ifCond .eq 14, 3) := by decide +kernel
theorem dX6_worlds_7 : decode cX6_worlds 7 = .ok (.aload_n 0, 1) := by decide +kernel
theorem dX6_worlds_8 : decode cX6_worlds 8 = .ok (.getfield 27, 3) := by decide +kernel
theorem dX6_worlds_11 : decode cX6_worlds 11 = .ok (.iload_n 1, 1) := by decide +kernel
theorem dX6_worlds_12 : decode cX6_worlds 12 = .ok (.invokevirtual 124, 3) := by decide +kernel
theorem dX6_worlds_15 : decode cX6_worlds 15 = .ok (.ifCond .ne 6, 3) := by decide +kernel
theorem dX6_worlds_18 : decode cX6_worlds 18 = .ok (.bipush (-2), 2) := by decide +kernel
theorem dX6_worlds_20 : decode cX6_worlds 20 = .ok (.ireturn, 1) := by decide +kernel
theorem dX6_worlds_21 : decode cX6_worlds 21 = .ok (.aload_n 0, 1) := by decide +kernel
theorem dX6_worlds_22 : decode cX6_worlds 22 = .ok (.getfield 19, 3) := by decide +kernel
theorem dX6_worlds_25 : decode cX6_worlds 25 = .ok (.iload_n 1, 1) := by decide +kernel
theorem dX6_worlds_26 : decode cX6_worlds 26 = .ok (.iload_n 2, 1) := by decide +kernel
theorem dX6_worlds_27 : decode cX6_worlds 27 = .ok (.invokevirtual 127, 3) := by decide +kernel
theorem dX6_worlds_30 : decode cX6_worlds 30 = .ok (.ireturn, 1) := by decide +kernel
set_option maxRecDepth 20000 in
theorem ggX6_thief_X0_isDealt : GoodIn wsX6_thief wsX0_isDealt := goodIn_r _ [7, 8, 88, 89, 90, 91, 92, 93, 94, 95, 96, 97, 98, 99] (by decide +kernel) (by decide +kernel)
set_option maxRecDepth 20000 in
theorem gX6_thief_X0_isDealt : GoodIn wsX6_thief (wsV RX6 80 RX0 yX0_isDealt wsX0_isDealt) := goodIn_app (goodIn_of _ (by decide +kernel)) ggX6_thief_X0_isDealt
set_option maxRecDepth 20000 in
theorem ggX6_thief_X2_opened : GoodIn wsX6_thief wsX2_opened := goodIn_r _ [13, 14, 15, 16, 17, 18, 19, 20, 21, 22, 23, 24, 25, 26, 27, 28, 29, 30, 31, 32, 33, 34, 35, 36, 37, 38, 39, 40, 41, 42, 43, 44, 45, 46, 47, 48, 49, 50, 51, 52, 53, 54, 55, 56, 57, 58, 59, 60, 61, 62, 63, 64, 65, 66, 100, 101, 102, 103, 104, 105, 88, 89, 90, 91, 92, 93, 94, 95, 96, 97, 98, 99, 106, 107, 108, 109] (by decide +kernel) (by decide +kernel)
set_option maxRecDepth 20000 in
theorem gX6_thief_X2_opened : GoodIn wsX6_thief (wsV RX6 130 RX2 yX2_opened wsX2_opened) := goodIn_app (goodIn_of _ (by decide +kernel)) ggX6_thief_X2_opened
set_option maxRecDepth 20000 in
theorem ggX6_thief_X0_firstLostEpoch : GoodIn wsX6_thief wsX0_firstLostEpoch := goodIn_r _ [70, 71, 72, 17, 18, 19, 20, 21, 22, 23, 24, 25, 26, 27, 73, 29, 30, 31, 32, 33, 34, 74, 75, 76, 6, 77, 78, 79, 80, 81, 82, 8, 88, 89, 90, 91, 92, 93, 94, 95, 96, 97, 98, 99, 106, 107, 108, 109] (by decide +kernel) (by decide +kernel)
set_option maxRecDepth 20000 in
theorem gX6_thief_X0_firstLostEpoch : GoodIn wsX6_thief (wsV RX6 133 RX0 yX0_firstLostEpoch wsX0_firstLostEpoch) := goodIn_app (goodIn_of _ (by decide +kernel)) ggX6_thief_X0_firstLostEpoch
set_option maxRecDepth 20000 in
theorem ggX6_thief_X0_thresholdOf : GoodIn wsX6_thief wsX0_thresholdOf := goodIn_r _ [77, 78, 79, 80, 81, 6, 82, 8, 88, 89, 90, 91, 92, 93, 94, 95, 96, 97, 98, 99] (by decide +kernel) (by decide +kernel)
set_option maxRecDepth 20000 in
theorem gX6_thief_X0_thresholdOf : GoodIn wsX6_thief (wsV RX6 136 RX0 yX0_thresholdOf wsX0_thresholdOf) := goodIn_app (goodIn_of _ (by decide +kernel)) ggX6_thief_X0_thresholdOf
theorem dX6_thief_0 : decode cX6_thief 0 = .ok (.iload_n 1, 1) := by decide +kernel
theorem dX6_thief_1 : decode cX6_thief 1 = .ok (.ifCond .lt 8, 3) := by decide +kernel
theorem dX6_thief_4 : decode cX6_thief 4 = .ok (.iload_n 1, 1) := by decide +kernel
theorem dX6_thief_5 : decode cX6_thief 5 = .ok (.iconst 2, 1) := by decide +kernel
theorem dX6_thief_6 : decode cX6_thief 6 = .ok (.if_icmp .le 6, 3) := by decide +kernel
theorem dX6_thief_9 : decode cX6_thief 9 = .ok (.bipush (-2), 2) := by decide +kernel
theorem dX6_thief_11 : decode cX6_thief 11 = .ok (.ireturn, 1) := by decide +kernel
theorem dX6_thief_12 : decode cX6_thief 12 = .ok (.aload_n 0, 1) := by decide +kernel
theorem dX6_thief_13 : decode cX6_thief 13 = .ok (.getfield 27, 3) := by decide +kernel
theorem dX6_thief_16 : decode cX6_thief 16 = .ok (.invokevirtual 80, 3) := by decide +kernel
theorem dX6_thief_19 : decode cX6_thief 19 = .ok (.ifCond .ne 6, 3) := by decide +kernel
theorem dX6_thief_22 : decode cX6_thief 22 = .ok (.bipush (-3), 2) := by decide +kernel
theorem dX6_thief_24 : decode cX6_thief 24 = .ok (.ireturn, 1) := by decide +kernel
theorem dX6_thief_25 : decode cX6_thief 25 = .ok (.iload_n 1, 1) := by decide +kernel
theorem dX6_thief_26 : decode cX6_thief 26 = .ok (.iconst 2, 1) := by decide +kernel
theorem dX6_thief_27 : decode cX6_thief 27 = .ok (.if_icmp .ne 19, 3) := by decide +kernel
theorem dX6_thief_30 : decode cX6_thief 30 = .ok (.aload_n 0, 1) := by decide +kernel
theorem dX6_thief_31 : decode cX6_thief 31 = .ok (.getfield 19, 3) := by decide +kernel
theorem dX6_thief_34 : decode cX6_thief 34 = .ok (.iconst (-1), 1) := by decide +kernel
theorem dX6_thief_35 : decode cX6_thief 35 = .ok (.aload_n 0, 1) := by decide +kernel
theorem dX6_thief_36 : decode cX6_thief 36 = .ok (.getfield 27, 3) := by decide +kernel
theorem dX6_thief_39 : decode cX6_thief 39 = .ok (.getfield 87, 3) := by decide +kernel
theorem dX6_thief_42 : decode cX6_thief 42 = .ok (.invokevirtual 130, 3) := by decide +kernel
theorem dX6_thief_45 : decode cX6_thief 45 = .ok (.ireturn, 1) := by decide +kernel
theorem dX6_thief_46 : decode cX6_thief 46 = .ok (.aload_n 0, 1) := by decide +kernel
theorem dX6_thief_47 : decode cX6_thief 47 = .ok (.getfield 27, 3) := by decide +kernel
theorem dX6_thief_50 : decode cX6_thief 50 = .ok (.invokevirtual 133, 3) := by decide +kernel
theorem dX6_thief_53 : decode cX6_thief 53 = .ok (.istore_n 2, 1) := by decide +kernel
theorem dX6_thief_54 : decode cX6_thief 54 = .ok (.iload_n 1, 1) := by decide +kernel
theorem dX6_thief_55 : decode cX6_thief 55 = .ok (.ifCond .eq 9, 3) := by decide +kernel
theorem dX6_thief_58 : decode cX6_thief 58 = .ok (.iload_n 2, 1) := by decide +kernel
theorem dX6_thief_59 : decode cX6_thief 59 = .ok (.bipush (-6), 2) := by decide +kernel
theorem dX6_thief_61 : decode cX6_thief 61 = .ok (.if_icmp .ne 5, 3) := by decide +kernel
theorem dX6_thief_64 : decode cX6_thief 64 = .ok (.iload_n 2, 1) := by decide +kernel
theorem dX6_thief_65 : decode cX6_thief 65 = .ok (.ireturn, 1) := by decide +kernel
theorem dX6_thief_66 : decode cX6_thief 66 = .ok (.aload_n 0, 1) := by decide +kernel
theorem dX6_thief_67 : decode cX6_thief 67 = .ok (.getfield 19, 3) := by decide +kernel
theorem dX6_thief_70 : decode cX6_thief 70 = .ok (.iload_n 2, 1) := by decide +kernel
theorem dX6_thief_71 : decode cX6_thief 71 = .ok (.aload_n 0, 1) := by decide +kernel
theorem dX6_thief_72 : decode cX6_thief 72 = .ok (.getfield 27, 3) := by decide +kernel
theorem dX6_thief_75 : decode cX6_thief 75 = .ok (.iload_n 2, 1) := by decide +kernel
theorem dX6_thief_76 : decode cX6_thief 76 = .ok (.invokevirtual 136, 3) := by decide +kernel
theorem dX6_thief_79 : decode cX6_thief 79 = .ok (.invokevirtual 130, 3) := by decide +kernel
theorem dX6_thief_82 : decode cX6_thief 82 = .ok (.ireturn, 1) := by decide +kernel
set_option maxRecDepth 20000 in
theorem ggX6_image_X0_init : GoodIn wsX6_image wsX0_init := goodIn_r _ [8, 9, 10, 11, 12, 13, 14, 15, 16, 17, 18, 19, 20, 21, 22, 23, 24, 25, 26, 27, 28, 29, 30, 31, 32, 33, 34, 35, 53, 54, 55, 56, 57, 58, 59, 60, 61, 62, 63, 64, 65, 66, 67, 68] (by decide +kernel) (by decide +kernel)
set_option maxRecDepth 20000 in
theorem gX6_image_X0_init : GoodIn wsX6_image (wsX0_init) := ggX6_image_X0_init
set_option maxRecDepth 20000 in
theorem ggX6_image_X0_copyFrom : GoodIn wsX6_image wsX0_copyFrom := goodIn_r _ [39, 13, 40, 41, 42, 43, 14, 15, 16, 17, 21, 22, 23, 24, 25, 26, 27, 44, 45, 46, 20, 47, 32, 48, 33, 34, 35, 53, 54, 55, 56, 57, 58, 59, 60, 61, 62, 63, 64, 65, 66, 67, 68] (by decide +kernel) (by decide +kernel)
set_option maxRecDepth 20000 in
theorem gX6_image_X0_copyFrom : GoodIn wsX6_image (wsV RX6 140 RX0 yX0_copyFrom wsX0_copyFrom) := goodIn_app (goodIn_of _ (by decide +kernel)) ggX6_image_X0_copyFrom
theorem dX6_image_0 : decode cX6_image 0 = .ok (.iload_n 1, 1) := by decide +kernel
theorem dX6_image_1 : decode cX6_image 1 = .ok (.ifCond .lt 8, 3) := by decide +kernel
theorem dX6_image_4 : decode cX6_image 4 = .ok (.iload_n 1, 1) := by decide +kernel
theorem dX6_image_5 : decode cX6_image 5 = .ok (.iconst 2, 1) := by decide +kernel
theorem dX6_image_6 : decode cX6_image 6 = .ok (.if_icmp .lt 6, 3) := by decide +kernel
theorem dX6_image_9 : decode cX6_image 9 = .ok (.bipush (-2), 2) := by decide +kernel
theorem dX6_image_11 : decode cX6_image 11 = .ok (.ireturn, 1) := by decide +kernel
theorem dX6_image_12 : decode cX6_image 12 = .ok (.aload_n 0, 1) := by decide +kernel
theorem dX6_image_13 : decode cX6_image 13 = .ok (.getfield 30, 3) := by decide +kernel
theorem dX6_image_16 : decode cX6_image 16 = .ok (.iload_n 1, 1) := by decide +kernel
theorem dX6_image_17 : decode cX6_image 17 = .ok (.aaload, 1) := by decide +kernel
theorem dX6_image_18 : decode cX6_image 18 = .ok (.astore_n 2, 1) := by decide +kernel
theorem dX6_image_19 : decode cX6_image 19 = .ok (.aload_n 2, 1) := by decide +kernel
theorem dX6_image_20 : decode cX6_image 20 = .ok (.ifnonnull 18, 3) := by decide +kernel
theorem dX6_image_23 : decode cX6_image 23 = .ok (.new 28, 3) := by decide +kernel
theorem dX6_image_26 : decode cX6_image 26 = .ok (.dup, 1) := by decide +kernel
theorem dX6_image_27 : decode cX6_image 27 = .ok (.invokespecial 139, 3) := by decide +kernel
theorem dX6_image_30 : decode cX6_image 30 = .ok (.astore_n 2, 1) := by decide +kernel
theorem dX6_image_31 : decode cX6_image 31 = .ok (.aload_n 0, 1) := by decide +kernel
theorem dX6_image_32 : decode cX6_image 32 = .ok (.getfield 30, 3) := by decide +kernel
theorem dX6_image_35 : decode cX6_image 35 = .ok (.iload_n 1, 1) := by decide +kernel
theorem dX6_image_36 : decode cX6_image 36 = .ok (.aload_n 2, 1) := by decide +kernel
theorem dX6_image_37 : decode cX6_image 37 = .ok (.aastore, 1) := by decide +kernel
theorem dX6_image_38 : decode cX6_image 38 = .ok (.aload_n 2, 1) := by decide +kernel
theorem dX6_image_39 : decode cX6_image 39 = .ok (.aload_n 0, 1) := by decide +kernel
theorem dX6_image_40 : decode cX6_image 40 = .ok (.getfield 27, 3) := by decide +kernel
theorem dX6_image_43 : decode cX6_image 43 = .ok (.invokevirtual 140, 3) := by decide +kernel
theorem dX6_image_46 : decode cX6_image 46 = .ok (.iconst 1, 1) := by decide +kernel
theorem dX6_image_47 : decode cX6_image 47 = .ok (.ireturn, 1) := by decide +kernel
set_option maxRecDepth 20000 in
theorem ggX6_restore_X0_copyFrom : GoodIn wsX6_restore wsX0_copyFrom := goodIn_r _ [7, 8, 9, 10, 11, 12, 13, 14, 15, 16, 17, 18, 19, 20, 21, 22, 23, 24, 25, 26, 27, 28, 29, 30, 31, 32, 33, 38, 39, 40, 41, 42, 43, 44, 45, 46, 47, 48, 49, 50, 51, 52, 53] (by decide +kernel) (by decide +kernel)
set_option maxRecDepth 20000 in
theorem gX6_restore_X0_copyFrom : GoodIn wsX6_restore (wsV RX6 140 RX0 yX0_copyFrom wsX0_copyFrom) := goodIn_app (goodIn_of _ (by decide +kernel)) ggX6_restore_X0_copyFrom
theorem dX6_restore_0 : decode cX6_restore 0 = .ok (.iload_n 1, 1) := by decide +kernel
theorem dX6_restore_1 : decode cX6_restore 1 = .ok (.ifCond .lt 8, 3) := by decide +kernel
theorem dX6_restore_4 : decode cX6_restore 4 = .ok (.iload_n 1, 1) := by decide +kernel
theorem dX6_restore_5 : decode cX6_restore 5 = .ok (.iconst 2, 1) := by decide +kernel
theorem dX6_restore_6 : decode cX6_restore 6 = .ok (.if_icmp .lt 6, 3) := by decide +kernel
theorem dX6_restore_9 : decode cX6_restore 9 = .ok (.bipush (-2), 2) := by decide +kernel
theorem dX6_restore_11 : decode cX6_restore 11 = .ok (.ireturn, 1) := by decide +kernel
theorem dX6_restore_12 : decode cX6_restore 12 = .ok (.aload_n 0, 1) := by decide +kernel
theorem dX6_restore_13 : decode cX6_restore 13 = .ok (.getfield 30, 3) := by decide +kernel
theorem dX6_restore_16 : decode cX6_restore 16 = .ok (.iload_n 1, 1) := by decide +kernel
theorem dX6_restore_17 : decode cX6_restore 17 = .ok (.aaload, 1) := by decide +kernel
theorem dX6_restore_18 : decode cX6_restore 18 = .ok (.astore_n 2, 1) := by decide +kernel
theorem dX6_restore_19 : decode cX6_restore 19 = .ok (.aload_n 2, 1) := by decide +kernel
theorem dX6_restore_20 : decode cX6_restore 20 = .ok (.ifnonnull 6, 3) := by decide +kernel
theorem dX6_restore_23 : decode cX6_restore 23 = .ok (.bipush (-5), 2) := by decide +kernel
theorem dX6_restore_25 : decode cX6_restore 25 = .ok (.ireturn, 1) := by decide +kernel
theorem dX6_restore_26 : decode cX6_restore 26 = .ok (.aload_n 0, 1) := by decide +kernel
theorem dX6_restore_27 : decode cX6_restore 27 = .ok (.getfield 27, 3) := by decide +kernel
theorem dX6_restore_30 : decode cX6_restore 30 = .ok (.aload_n 2, 1) := by decide +kernel
theorem dX6_restore_31 : decode cX6_restore 31 = .ok (.invokevirtual 140, 3) := by decide +kernel
theorem dX6_restore_34 : decode cX6_restore 34 = .ok (.iconst 1, 1) := by decide +kernel
theorem dX6_restore_35 : decode cX6_restore 35 = .ok (.ireturn, 1) := by decide +kernel
set_option maxRecDepth 20000 in
theorem ggX6_count_X0_isDealt : GoodIn wsX6_count wsX0_isDealt := goodIn_r _ [7, 8, 40, 41, 42, 43, 44, 45, 46, 47, 48, 49, 50, 51] (by decide +kernel) (by decide +kernel)
set_option maxRecDepth 20000 in
theorem gX6_count_X0_isDealt : GoodIn wsX6_count (wsV RX6 80 RX0 yX0_isDealt wsX0_isDealt) := goodIn_app (goodIn_of _ (by decide +kernel)) ggX6_count_X0_isDealt
set_option maxRecDepth 20000 in
theorem ggX6_count_J6_bitCount_0f7a4 : GoodIn wsX6_count wsJ6_bitCount_0f7a4 := goodIn_r _ [12, 13, 14, 15] (by decide +kernel) (by decide +kernel)
set_option maxRecDepth 20000 in
theorem gX6_count_J6_bitCount_0f7a4 : GoodIn wsX6_count (va_wsS RX6 150 yJ6_bitCount_0f7a4 wsJ6_bitCount_0f7a4) := goodIn_app (goodIn_of _ (by decide +kernel)) ggX6_count_J6_bitCount_0f7a4
set_option maxRecDepth 20000 in
theorem ggX6_count_X6_keptImages : GoodIn wsX6_count wsX6_keptImages := goodIn_r _ [20, 21, 22, 23, 24, 25, 36, 37, 38, 39] (by decide +kernel) (by decide +kernel)
set_option maxRecDepth 20000 in
theorem gX6_count_X6_keptImages : GoodIn wsX6_count (wsV RX6 155 RX6 yX6_keptImages wsX6_keptImages) := goodIn_app (goodIn_of _ (by decide +kernel)) ggX6_count_X6_keptImages
set_option maxRecDepth 20000 in
theorem ggX6_count_X0_wasEpoch : GoodIn wsX6_count wsX0_wasEpoch := goodIn_r _ [29, 8, 40, 41, 42, 43, 44, 45, 46, 47, 48, 49, 50, 51] (by decide +kernel) (by decide +kernel)
set_option maxRecDepth 20000 in
theorem gX6_count_X0_wasEpoch : GoodIn wsX6_count (wsV RX6 124 RX0 yX0_wasEpoch wsX0_wasEpoch) := goodIn_app (goodIn_of _ (by decide +kernel)) ggX6_count_X0_wasEpoch
set_option maxRecDepth 20000 in
theorem ggX6_count_X0_thresholdOf : GoodIn wsX6_count wsX0_thresholdOf := goodIn_r _ [33, 34, 35, 27, 28, 6, 29, 8, 40, 41, 42, 43, 44, 45, 46, 47, 48, 49, 50, 51] (by decide +kernel) (by decide +kernel)
set_option maxRecDepth 20000 in
theorem gX6_count_X0_thresholdOf : GoodIn wsX6_count (wsV RX6 136 RX0 yX0_thresholdOf wsX0_thresholdOf) := goodIn_app (goodIn_of _ (by decide +kernel)) ggX6_count_X0_thresholdOf
theorem dX6_count_0 : decode cX6_count 0 = .ok (.iload_n 1, 1) := by decide +kernel
theorem dX6_count_1 : decode cX6_count 1 = .ok (.tableswitch 144 0 7 #[47, 70, 93, 104, 112, 123, 131, 139], 47) := by decide +kernel
theorem dX6_count_48 : decode cX6_count 48 = .ok (.aload_n 0, 1) := by decide +kernel
theorem dX6_count_49 : decode cX6_count 49 = .ok (.getfield 27, 3) := by decide +kernel
theorem dX6_count_52 : decode cX6_count 52 = .ok (.invokevirtual 80, 3) := by decide +kernel
theorem dX6_count_55 : decode cX6_count 55 = .ok (.ifCond .eq 13, 3) := by decide +kernel
theorem dX6_count_58 : decode cX6_count 58 = .ok (.aload_n 0, 1) := by decide +kernel
theorem dX6_count_59 : decode cX6_count 59 = .ok (.getfield 27, 3) := by decide +kernel
theorem dX6_count_62 : decode cX6_count 62 = .ok (.getfield 87, 3) := by decide +kernel
