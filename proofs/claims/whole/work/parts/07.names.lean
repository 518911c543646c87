theorem dX7_named_20 : decode cX7_named 20 = .ok (.aload_n 0, 1) := by decide +kernel
theorem dX7_named_21 : decode cX7_named 21 = .ok (.getfield 7, 3) := by decide +kernel
theorem dX7_named_24 : decode cX7_named 24 = .ok (.sipush 370, 3) := by decide +kernel
theorem dX7_named_27 : decode cX7_named 27 = .ok (.iaload, 1) := by decide +kernel
theorem dX7_named_28 : decode cX7_named 28 = .ok (.goto 5, 3) := by decide +kernel
theorem dX7_named_31 : decode cX7_named 31 = .ok (.bipush (-2), 2) := by decide +kernel
theorem dX7_named_33 : decode cX7_named 33 = .ok (.ireturn, 1) := by decide +kernel
set_option maxRecDepth 20000 in
theorem ggX7_fits_X7_isValue : GoodIn wsX7_fits wsX7_isValue := goodIn_r _ [4, 5, 6, 3, 7] (by decide +kernel) (by decide +kernel)
set_option maxRecDepth 20000 in
theorem gX7_fits_X7_isValue : GoodIn wsX7_fits (va_wsS RX7 44 yX7_isValue wsX7_isValue) := goodIn_app (goodIn_of _ (by decide +kernel)) ggX7_fits_X7_isValue
set_option maxRecDepth 20000 in
theorem ggX7_fits_X7_isDealt : GoodIn wsX7_fits wsX7_isDealt := goodIn_r _ [11, 12, 23, 24, 25, 26, 27, 28, 29, 30, 31] (by decide +kernel) (by decide +kernel)
set_option maxRecDepth 20000 in
theorem gX7_fits_X7_isDealt : GoodIn wsX7_fits (wsV RX7 110 RX7 yX7_isDealt wsX7_isDealt) := goodIn_app (goodIn_of _ (by decide +kernel)) ggX7_fits_X7_isDealt
set_option maxRecDepth 20000 in
theorem ggX7_fits_X7_isFit : GoodIn wsX7_fits wsX7_isFit := goodIn_r _ [16, 12, 17, 18, 3, 19, 20, 21, 22, 23, 24, 25, 26, 27, 28, 29, 30, 31] (by decide +kernel) (by decide +kernel)
set_option maxRecDepth 20000 in
theorem gX7_fits_X7_isFit : GoodIn wsX7_fits (wsV RX7 67 RX7 yX7_isFit wsX7_isFit) := goodIn_app (goodIn_of _ (by decide +kernel)) ggX7_fits_X7_isFit
theorem dX7_fits_0 : decode cX7_fits 0 = .ok (.iload_n 1, 1) := by decide +kernel
theorem dX7_fits_1 : decode cX7_fits 1 = .ok (.invokestatic 44, 3) := by decide +kernel
theorem dX7_fits_4 : decode cX7_fits 4 = .ok (.ifCond .eq 10, 3) := by decide +kernel
theorem dX7_fits_7 : decode cX7_fits 7 = .ok (.iload_n 2, 1) := by decide +kernel
theorem dX7_fits_8 : decode cX7_fits 8 = .ok (.invokestatic 44, 3) := by decide +kernel
theorem dX7_fits_11 : decode cX7_fits 11 = .ok (.ifCond .ne 6, 3) := by decide +kernel
theorem dX7_fits_14 : decode cX7_fits 14 = .ok (.bipush (-2), 2) := by decide +kernel
theorem dX7_fits_16 : decode cX7_fits 16 = .ok (.ireturn, 1) := by decide +kernel
theorem dX7_fits_17 : decode cX7_fits 17 = .ok (.aload_n 0, 1) := by decide +kernel
theorem dX7_fits_18 : decode cX7_fits 18 = .ok (.invokevirtual 110, 3) := by decide +kernel
theorem dX7_fits_21 : decode cX7_fits 21 = .ok (.ifCond .ne 8, 3) := by decide +kernel
theorem dX7_fits_24 : decode cX7_fits 24 = .ok (.bipush (-3), 2) := by decide +kernel
theorem dX7_fits_26 : decode cX7_fits 26 = .ok (.goto 17, 3) := by decide +kernel
theorem dX7_fits_29 : decode cX7_fits 29 = .ok (.aload_n 0, 1) := by decide +kernel
theorem dX7_fits_30 : decode cX7_fits 30 = .ok (.iload_n 1, 1) := by decide +kernel
theorem dX7_fits_31 : decode cX7_fits 31 = .ok (.iload_n 2, 1) := by decide +kernel
theorem dX7_fits_32 : decode cX7_fits 32 = .ok (.invokevirtual 67, 3) := by decide +kernel
theorem dX7_fits_35 : decode cX7_fits 35 = .ok (.ifCond .eq 7, 3) := by decide +kernel
theorem dX7_fits_38 : decode cX7_fits 38 = .ok (.iconst 1, 1) := by decide +kernel
theorem dX7_fits_39 : decode cX7_fits 39 = .ok (.goto 4, 3) := by decide +kernel
theorem dX7_fits_42 : decode cX7_fits 42 = .ok (.iconst 0, 1) := by decide +kernel
theorem dX7_fits_43 : decode cX7_fits 43 = .ok (.ireturn, 1) := by decide +kernel
set_option maxRecDepth 20000 in
theorem ggX7_seal_X7_isDealt : GoodIn wsX7_seal wsX7_isDealt := goodIn_r _ [6, 1, 10, 11, 12, 13, 14, 15, 16, 17, 18] (by decide +kernel) (by decide +kernel)
set_option maxRecDepth 20000 in
theorem gX7_seal_X7_isDealt : GoodIn wsX7_seal (wsV RX7 110 RX7 yX7_isDealt wsX7_isDealt) := goodIn_app (goodIn_of _ (by decide +kernel)) ggX7_seal_X7_isDealt
set_option maxRecDepth 20000 in
theorem ggX7_seal_X7_in : GoodIn wsX7_seal wsX7_in := goodIn_r _ [9] (by decide +kernel) (by decide +kernel)
set_option maxRecDepth 20000 in
theorem gX7_seal_X7_in : GoodIn wsX7_seal (va_wsS RX7 36 yX7_in wsX7_in) := goodIn_app (goodIn_of _ (by decide +kernel)) ggX7_seal_X7_in
theorem dX7_seal_0 : decode cX7_seal 0 = .ok (.aload_n 0, 1) := by decide +kernel
theorem dX7_seal_1 : decode cX7_seal 1 = .ok (.invokevirtual 110, 3) := by decide +kernel
theorem dX7_seal_4 : decode cX7_seal 4 = .ok (.ifCond .ne 6, 3) := by decide +kernel
theorem dX7_seal_7 : decode cX7_seal 7 = .ok (.bipush (-3), 2) := by decide +kernel
theorem dX7_seal_9 : decode cX7_seal 9 = .ok (.ireturn, 1) := by decide +kernel
theorem dX7_seal_10 : decode cX7_seal 10 = .ok (.iload_n 1, 1) := by decide +kernel
theorem dX7_seal_11 : decode cX7_seal 11 = .ok (.iconst 0, 1) := by decide +kernel
theorem dX7_seal_12 : decode cX7_seal 12 = .ok (.aload_n 0, 1) := by decide +kernel
theorem dX7_seal_13 : decode cX7_seal 13 = .ok (.getfield 7, 3) := by decide +kernel
theorem dX7_seal_16 : decode cX7_seal 16 = .ok (.bipush 88, 2) := by decide +kernel
theorem dX7_seal_18 : decode cX7_seal 18 = .ok (.iaload, 1) := by decide +kernel
theorem dX7_seal_19 : decode cX7_seal 19 = .ok (.iconst 1, 1) := by decide +kernel
theorem dX7_seal_20 : decode cX7_seal 20 = .ok (.isub, 1) := by decide +kernel
theorem dX7_seal_21 : decode cX7_seal 21 = .ok (.invokestatic 36, 3) := by decide +kernel
theorem dX7_seal_24 : decode cX7_seal 24 = .ok (.ifCond .eq 15, 3) := by decide +kernel
theorem dX7_seal_27 : decode cX7_seal 27 = .ok (.aload_n 0, 1) := by decide +kernel
theorem dX7_seal_28 : decode cX7_seal 28 = .ok (.getfield 7, 3) := by decide +kernel
theorem dX7_seal_31 : decode cX7_seal 31 = .ok (.bipush 90, 2) := by decide +kernel
theorem dX7_seal_33 : decode cX7_seal 33 = .ok (.iload_n 1, 1) := by decide +kernel
theorem dX7_seal_34 : decode cX7_seal 34 = .ok (.iadd, 1) := by decide +kernel
theorem dX7_seal_35 : decode cX7_seal 35 = .ok (.iaload, 1) := by decide +kernel
theorem dX7_seal_36 : decode cX7_seal 36 = .ok (.goto 5, 3) := by decide +kernel
theorem dX7_seal_39 : decode cX7_seal 39 = .ok (.bipush (-6), 2) := by decide +kernel
theorem dX7_seal_41 : decode cX7_seal 41 = .ok (.ireturn, 1) := by decide +kernel
set_option maxRecDepth 20000 in
theorem ggX7_loot_X7_in : GoodIn wsX7_loot wsX7_in := goodIn_r _ [5] (by decide +kernel) (by decide +kernel)
set_option maxRecDepth 20000 in
theorem gX7_loot_X7_in : GoodIn wsX7_loot (va_wsS RX7 36 yX7_in wsX7_in) := goodIn_app (goodIn_of _ (by decide +kernel)) ggX7_loot_X7_in
theorem dX7_loot_0 : decode cX7_loot 0 = .ok (.iload_n 2, 1) := by decide +kernel
theorem dX7_loot_1 : decode cX7_loot 1 = .ok (.iconst 0, 1) := by decide +kernel
theorem dX7_loot_2 : decode cX7_loot 2 = .ok (.iconst 2, 1) := by decide +kernel
theorem dX7_loot_3 : decode cX7_loot 3 = .ok (.invokestatic 36, 3) := by decide +kernel
theorem dX7_loot_6 : decode cX7_loot 6 = .ok (.ifCond .ne 6, 3) := by decide +kernel
theorem dX7_loot_9 : decode cX7_loot 9 = .ok (.bipush (-2), 2) := by decide +kernel
theorem dX7_loot_11 : decode cX7_loot 11 = .ok (.ireturn, 1) := by decide +kernel
theorem dX7_loot_12 : decode cX7_loot 12 = .ok (.iload_n 1, 1) := by decide +kernel
theorem dX7_loot_13 : decode cX7_loot 13 = .ok (.iconst 0, 1) := by decide +kernel
theorem dX7_loot_14 : decode cX7_loot 14 = .ok (.aload_n 0, 1) := by decide +kernel
theorem dX7_loot_15 : decode cX7_loot 15 = .ok (.getfield 7, 3) := by decide +kernel
theorem dX7_loot_18 : decode cX7_loot 18 = .ok (.sipush 367, 3) := by decide +kernel
theorem dX7_loot_21 : decode cX7_loot 21 = .ok (.iaload, 1) := by decide +kernel
theorem dX7_loot_22 : decode cX7_loot 22 = .ok (.iconst 1, 1) := by decide +kernel
theorem dX7_loot_23 : decode cX7_loot 23 = .ok (.isub, 1) := by decide +kernel
theorem dX7_loot_24 : decode cX7_loot 24 = .ok (.invokestatic 36, 3) := by decide +kernel
theorem dX7_loot_27 : decode cX7_loot 27 = .ok (.ifCond .eq 20, 3) := by decide +kernel
theorem dX7_loot_30 : decode cX7_loot 30 = .ok (.aload_n 0, 1) := by decide +kernel
theorem dX7_loot_31 : decode cX7_loot 31 = .ok (.getfield 7, 3) := by decide +kernel
theorem dX7_loot_34 : decode cX7_loot 34 = .ok (.sipush 295, 3) := by decide +kernel
theorem dX7_loot_37 : decode cX7_loot 37 = .ok (.iconst 3, 1) := by decide +kernel
theorem dX7_loot_38 : decode cX7_loot 38 = .ok (.iload_n 1, 1) := by decide +kernel
theorem dX7_loot_39 : decode cX7_loot 39 = .ok (.imul, 1) := by decide +kernel
theorem dX7_loot_40 : decode cX7_loot 40 = .ok (.iadd, 1) := by decide +kernel
theorem dX7_loot_41 : decode cX7_loot 41 = .ok (.iload_n 2, 1) := by decide +kernel
theorem dX7_loot_42 : decode cX7_loot 42 = .ok (.iadd, 1) := by decide +kernel
theorem dX7_loot_43 : decode cX7_loot 43 = .ok (.iaload, 1) := by decide +kernel
theorem dX7_loot_44 : decode cX7_loot 44 = .ok (.goto 5, 3) := by decide +kernel
theorem dX7_loot_47 : decode cX7_loot 47 = .ok (.bipush (-6), 2) := by decide +kernel
theorem dX7_loot_49 : decode cX7_loot 49 = .ok (.ireturn, 1) := by decide +kernel
theorem dX7_lootOf_0 : decode cX7_lootOf 0 = .ok (.aload_n 0, 1) := by decide +kernel
theorem dX7_lootOf_1 : decode cX7_lootOf 1 = .ok (.getfield 7, 3) := by decide +kernel
theorem dX7_lootOf_4 : decode cX7_lootOf 4 = .ok (.sipush 295, 3) := by decide +kernel
theorem dX7_lootOf_7 : decode cX7_lootOf 7 = .ok (.iconst 3, 1) := by decide +kernel
theorem dX7_lootOf_8 : decode cX7_lootOf 8 = .ok (.iload_n 1, 1) := by decide +kernel
theorem dX7_lootOf_9 : decode cX7_lootOf 9 = .ok (.imul, 1) := by decide +kernel
theorem dX7_lootOf_10 : decode cX7_lootOf 10 = .ok (.iadd, 1) := by decide +kernel
theorem dX7_lootOf_11 : decode cX7_lootOf 11 = .ok (.iload_n 2, 1) := by decide +kernel
theorem dX7_lootOf_12 : decode cX7_lootOf 12 = .ok (.iadd, 1) := by decide +kernel
theorem dX7_lootOf_13 : decode cX7_lootOf 13 = .ok (.iaload, 1) := by decide +kernel
theorem dX7_lootOf_14 : decode cX7_lootOf 14 = .ok (.ireturn, 1) := by decide +kernel
set_option maxRecDepth 20000 in
theorem ggX7_isWorld_X7_lootOf : GoodIn wsX7_isWorld wsX7_lootOf := goodIn_r _ [6, 1, 16, 17, 18, 19, 20, 21, 22, 23, 24] (by decide +kernel) (by decide +kernel)
set_option maxRecDepth 20000 in
theorem gX7_isWorld_X7_lootOf : GoodIn wsX7_isWorld (wsV RX7 165 RX7 yX7_lootOf wsX7_lootOf) := goodIn_app (goodIn_of _ (by decide +kernel)) ggX7_isWorld_X7_lootOf
set_option maxRecDepth 20000 in
theorem ggX7_isWorld_X7_polyAt : GoodIn wsX7_isWorld wsX7_polyAt := goodIn_r _ [10, 11, 12, 13, 14, 5, 15, 16, 17, 18, 19, 20, 21, 22, 23, 24] (by decide +kernel) (by decide +kernel)
set_option maxRecDepth 20000 in
theorem gX7_isWorld_X7_polyAt : GoodIn wsX7_isWorld (wsV RX7 100 RX7 yX7_polyAt wsX7_polyAt) := goodIn_app (goodIn_of _ (by decide +kernel)) ggX7_isWorld_X7_polyAt
theorem dX7_isWorld_0 : decode cX7_isWorld 0 = .ok (.iconst 0, 1) := by decide +kernel
theorem dX7_isWorld_1 : decode cX7_isWorld 1 = .ok (.istore_n 2, 1) := by decide +kernel
theorem dX7_isWorld_2 : decode cX7_isWorld 2 = .ok (.iload_n 2, 1) := by decide +kernel
theorem dX7_isWorld_3 : decode cX7_isWorld 3 = .ok (.aload_n 0, 1) := by decide +kernel
theorem dX7_isWorld_4 : decode cX7_isWorld 4 = .ok (.getfield 7, 3) := by decide +kernel
theorem dX7_isWorld_7 : decode cX7_isWorld 7 = .ok (.sipush 367, 3) := by decide +kernel
theorem dX7_isWorld_10 : decode cX7_isWorld 10 = .ok (.iaload, 1) := by decide +kernel
theorem dX7_isWorld_11 : decode cX7_isWorld 11 = .ok (.if_icmp .ge 40, 3) := by decide +kernel
theorem dX7_isWorld_14 : decode cX7_isWorld 14 = .ok (.aload_n 0, 1) := by decide +kernel
theorem dX7_isWorld_15 : decode cX7_isWorld 15 = .ok (.iload_n 2, 1) := by decide +kernel
theorem dX7_isWorld_16 : decode cX7_isWorld 16 = .ok (.iconst 1, 1) := by decide +kernel
theorem dX7_isWorld_17 : decode cX7_isWorld 17 = .ok (.invokevirtual 165, 3) := by decide +kernel
theorem dX7_isWorld_20 : decode cX7_isWorld 20 = .ok (.iload_n 1, 1) := by decide +kernel
theorem dX7_isWorld_21 : decode cX7_isWorld 21 = .ok (.if_icmp .ne 24, 3) := by decide +kernel
theorem dX7_isWorld_24 : decode cX7_isWorld 24 = .ok (.aload_n 0, 1) := by decide +kernel
theorem dX7_isWorld_25 : decode cX7_isWorld 25 = .ok (.aload_n 0, 1) := by decide +kernel
theorem dX7_isWorld_26 : decode cX7_isWorld 26 = .ok (.iload_n 2, 1) := by decide +kernel
theorem dX7_isWorld_27 : decode cX7_isWorld 27 = .ok (.iconst 0, 1) := by decide +kernel
theorem dX7_isWorld_28 : decode cX7_isWorld 28 = .ok (.invokevirtual 165, 3) := by decide +kernel
theorem dX7_isWorld_31 : decode cX7_isWorld 31 = .ok (.invokevirtual 100, 3) := by decide +kernel
theorem dX7_isWorld_34 : decode cX7_isWorld 34 = .ok (.aload_n 0, 1) := by decide +kernel
theorem dX7_isWorld_35 : decode cX7_isWorld 35 = .ok (.iload_n 2, 1) := by decide +kernel
theorem dX7_isWorld_36 : decode cX7_isWorld 36 = .ok (.iconst 2, 1) := by decide +kernel
theorem dX7_isWorld_37 : decode cX7_isWorld 37 = .ok (.invokevirtual 165, 3) := by decide +kernel
theorem dX7_isWorld_40 : decode cX7_isWorld 40 = .ok (.if_icmp .eq 5, 3) := by decide +kernel
theorem dX7_isWorld_43 : decode cX7_isWorld 43 = .ok (.iconst 0, 1) := by decide +kernel
theorem dX7_isWorld_44 : decode cX7_isWorld 44 = .ok (.ireturn, 1) := by decide +kernel
theorem dX7_isWorld_45 : decode cX7_isWorld 45 = .ok (.iinc 2 1, 3) := by decide +kernel
theorem dX7_isWorld_48 : decode cX7_isWorld 48 = .ok (.goto (-46), 3) := by decide +kernel
theorem dX7_isWorld_51 : decode cX7_isWorld 51 = .ok (.iconst 1, 1) := by decide +kernel
theorem dX7_isWorld_52 : decode cX7_isWorld 52 = .ok (.ireturn, 1) := by decide +kernel
set_option maxRecDepth 20000 in
theorem ggX7_isEpoch_X7_in : GoodIn wsX7_isEpoch wsX7_in := goodIn_r _ [5] (by decide +kernel) (by decide +kernel)
set_option maxRecDepth 20000 in
theorem gX7_isEpoch_X7_in : GoodIn wsX7_isEpoch (va_wsS RX7 36 yX7_in wsX7_in) := goodIn_app (goodIn_of _ (by decide +kernel)) ggX7_isEpoch_X7_in
theorem dX7_isEpoch_0 : decode cX7_isEpoch 0 = .ok (.iload_n 1, 1) := by decide +kernel
theorem dX7_isEpoch_1 : decode cX7_isEpoch 1 = .ok (.iconst 0, 1) := by decide +kernel
theorem dX7_isEpoch_2 : decode cX7_isEpoch 2 = .ok (.aload_n 0, 1) := by decide +kernel
theorem dX7_isEpoch_3 : decode cX7_isEpoch 3 = .ok (.getfield 7, 3) := by decide +kernel
theorem dX7_isEpoch_6 : decode cX7_isEpoch 6 = .ok (.bipush 89, 2) := by decide +kernel
theorem dX7_isEpoch_8 : decode cX7_isEpoch 8 = .ok (.iaload, 1) := by decide +kernel
theorem dX7_isEpoch_9 : decode cX7_isEpoch 9 = .ok (.invokestatic 36, 3) := by decide +kernel
theorem dX7_isEpoch_12 : decode cX7_isEpoch 12 = .ok (.ireturn, 1) := by decide +kernel
set_option maxRecDepth 20000 in
theorem ggX7_worlds_X7_isValue : GoodIn wsX7_worlds wsX7_isValue := goodIn_r _ [7, 8, 9, 6, 10] (by decide +kernel) (by decide +kernel)
set_option maxRecDepth 20000 in
theorem gX7_worlds_X7_isValue : GoodIn wsX7_worlds (va_wsS RX7 44 yX7_isValue wsX7_isValue) := goodIn_app (goodIn_of _ (by decide +kernel)) ggX7_worlds_X7_isValue
set_option maxRecDepth 20000 in
theorem ggX7_worlds_X7_isEpoch : GoodIn wsX7_worlds wsX7_isEpoch := goodIn_r _ [14, 1, 8, 9, 6, 10, 30, 31, 32, 33, 34, 35, 36, 37, 38] (by decide +kernel) (by decide +kernel)
set_option maxRecDepth 20000 in
theorem gX7_worlds_X7_isEpoch : GoodIn wsX7_worlds (wsV RX7 168 RX7 yX7_isEpoch wsX7_isEpoch) := goodIn_app (goodIn_of _ (by decide +kernel)) ggX7_worlds_X7_isEpoch
set_option maxRecDepth 20000 in
theorem ggX7_worlds_X7_isWorld : GoodIn wsX7_worlds wsX7_isWorld := goodIn_r _ [18, 1, 19, 20, 21, 6, 22, 23, 24, 25, 26, 2, 3, 27, 28, 29, 30, 31, 32, 33, 34, 35, 36, 37, 38] (by decide +kernel) (by decide +kernel)
set_option maxRecDepth 20000 in
theorem gX7_worlds_X7_isWorld : GoodIn wsX7_worlds (wsV RX7 171 RX7 yX7_isWorld wsX7_isWorld) := goodIn_app (goodIn_of _ (by decide +kernel)) ggX7_worlds_X7_isWorld
theorem dX7_worlds_0 : decode cX7_worlds 0 = .ok (.iload_n 2, 1) := by decide +kernel
theorem dX7_worlds_1 : decode cX7_worlds 1 = .ok (.invokestatic 44, 3) := by decide +kernel
theorem dX7_worlds_4 : decode cX7_worlds 4 = .ok (.ifCond .eq 11, 3) := by decide +kernel
theorem dX7_worlds_7 : decode cX7_worlds 7 = .ok (.aload_n 0, 1) := by decide +kernel
theorem dX7_worlds_8 : decode cX7_worlds 8 = .ok (.iload_n 1, 1) := by decide +kernel
theorem dX7_worlds_9 : decode cX7_worlds 9 = .ok (.invokevirtual 168, 3) := by decide +kernel
theorem dX7_worlds_12 : decode cX7_worlds 12 = .ok (.ifCond .ne 6, 3) := by decide +kernel
theorem dX7_worlds_15 : decode cX7_worlds 15 = .ok (.bipush (-2), 2) := by decide +kernel
theorem dX7_worlds_17 : decode cX7_worlds 17 = .ok (.ireturn, 1) := by decide +kernel
theorem dX7_worlds_18 : decode cX7_worlds 18 = .ok (.aload_n 0, 1) := by decide +kernel
theorem dX7_worlds_19 : decode cX7_worlds 19 = .ok (.aload_n 0, 1) := by decide +kernel
theorem dX7_worlds_20 : decode cX7_worlds 20 = .ok (.getfield 7, 3) := by decide +kernel
theorem dX7_worlds_23 : decode cX7_worlds 23 = .ok (.bipush 95, 2) := by decide +kernel
theorem dX7_worlds_25 : decode cX7_worlds 25 = .ok (.iload_n 1, 1) := by decide +kernel
theorem dX7_worlds_26 : decode cX7_worlds 26 = .ok (.iadd, 1) := by decide +kernel
theorem dX7_worlds_27 : decode cX7_worlds 27 = .ok (.iaload, 1) := by decide +kernel
theorem dX7_worlds_28 : decode cX7_worlds 28 = .ok (.putfield 97, 3) := by decide +kernel
theorem dX7_worlds_31 : decode cX7_worlds 31 = .ok (.iconst 1, 1) := by decide +kernel
theorem dX7_worlds_32 : decode cX7_worlds 32 = .ok (.istore_n 3, 1) := by decide +kernel
theorem dX7_worlds_33 : decode cX7_worlds 33 = .ok (.iconst 1, 1) := by decide +kernel
theorem dX7_worlds_34 : decode cX7_worlds 34 = .ok (.istore 4, 2) := by decide +kernel
theorem dX7_worlds_36 : decode cX7_worlds 36 = .ok (.iload 4, 2) := by decide +kernel
theorem dX7_worlds_38 : decode cX7_worlds 38 = .ok (.aload_n 0, 1) := by decide +kernel
theorem dX7_worlds_39 : decode cX7_worlds 39 = .ok (.getfield 97, 3) := by decide +kernel
theorem dX7_worlds_42 : decode cX7_worlds 42 = .ok (.if_icmp .ge 14, 3) := by decide +kernel
theorem dX7_worlds_45 : decode cX7_worlds 45 = .ok (.iload_n 3, 1) := by decide +kernel
theorem dX7_worlds_46 : decode cX7_worlds 46 = .ok (.bipush 23, 2) := by decide +kernel
theorem dX7_worlds_48 : decode cX7_worlds 48 = .ok (.imul, 1) := by decide +kernel
theorem dX7_worlds_49 : decode cX7_worlds 49 = .ok (.istore_n 3, 1) := by decide +kernel
theorem dX7_worlds_50 : decode cX7_worlds 50 = .ok (.iinc 4 1, 3) := by decide +kernel
theorem dX7_worlds_53 : decode cX7_worlds 53 = .ok (.goto (-17), 3) := by decide +kernel
theorem dX7_worlds_56 : decode cX7_worlds 56 = .ok (.iconst 0, 1) := by decide +kernel
theorem dX7_worlds_57 : decode cX7_worlds 57 = .ok (.istore 4, 2) := by decide +kernel
theorem dX7_worlds_59 : decode cX7_worlds 59 = .ok (.iconst 0, 1) := by decide +kernel
theorem dX7_worlds_60 : decode cX7_worlds 60 = .ok (.istore 5, 2) := by decide +kernel
theorem dX7_worlds_62 : decode cX7_worlds 62 = .ok (.iload 5, 2) := by decide +kernel
theorem dX7_worlds_64 : decode cX7_worlds 64 = .ok (.iload_n 3, 1) := by decide +kernel
theorem dX7_worlds_65 : decode cX7_worlds 65 = .ok (.if_icmp .ge 75, 3) := by decide +kernel
theorem dX7_worlds_68 : decode cX7_worlds 68 = .ok (.iload 5, 2) := by decide +kernel
theorem dX7_worlds_70 : decode cX7_worlds 70 = .ok (.istore 6, 2) := by decide +kernel
theorem dX7_worlds_72 : decode cX7_worlds 72 = .ok (.aload_n 0, 1) := by decide +kernel
theorem dX7_worlds_73 : decode cX7_worlds 73 = .ok (.getfield 16, 3) := by decide +kernel
theorem dX7_worlds_76 : decode cX7_worlds 76 = .ok (.iconst 0, 1) := by decide +kernel
theorem dX7_worlds_77 : decode cX7_worlds 77 = .ok (.iload_n 2, 1) := by decide +kernel
theorem dX7_worlds_78 : decode cX7_worlds 78 = .ok (.iastore, 1) := by decide +kernel
theorem dX7_worlds_79 : decode cX7_worlds 79 = .ok (.iconst 1, 1) := by decide +kernel
theorem dX7_worlds_80 : decode cX7_worlds 80 = .ok (.istore 7, 2) := by decide +kernel
theorem dX7_worlds_82 : decode cX7_worlds 82 = .ok (.iload 7, 2) := by decide +kernel
theorem dX7_worlds_84 : decode cX7_worlds 84 = .ok (.aload_n 0, 1) := by decide +kernel
theorem dX7_worlds_85 : decode cX7_worlds 85 = .ok (.getfield 97, 3) := by decide +kernel
theorem dX7_worlds_88 : decode cX7_worlds 88 = .ok (.if_icmp .ge 28, 3) := by decide +kernel
theorem dX7_worlds_91 : decode cX7_worlds 91 = .ok (.aload_n 0, 1) := by decide +kernel
theorem dX7_worlds_92 : decode cX7_worlds 92 = .ok (.getfield 16, 3) := by decide +kernel
theorem dX7_worlds_95 : decode cX7_worlds 95 = .ok (.iload 7, 2) := by decide +kernel
theorem dX7_worlds_97 : decode cX7_worlds 97 = .ok (.iload 6, 2) := by decide +kernel
theorem dX7_worlds_99 : decode cX7_worlds 99 = .ok (.bipush 23, 2) := by decide +kernel
theorem dX7_worlds_101 : decode cX7_worlds 101 = .ok (.irem, 1) := by decide +kernel
theorem dX7_worlds_102 : decode cX7_worlds 102 = .ok (.iastore, 1) := by decide +kernel
theorem dX7_worlds_103 : decode cX7_worlds 103 = .ok (.iload 6, 2) := by decide +kernel
theorem dX7_worlds_105 : decode cX7_worlds 105 = .ok (.bipush 23, 2) := by decide +kernel
theorem dX7_worlds_107 : decode cX7_worlds 107 = .ok (.idiv, 1) := by decide +kernel
theorem dX7_worlds_108 : decode cX7_worlds 108 = .ok (.istore 6, 2) := by decide +kernel
theorem dX7_worlds_110 : decode cX7_worlds 110 = .ok (.iinc 7 1, 3) := by decide +kernel
theorem dX7_worlds_113 : decode cX7_worlds 113 = .ok (.goto (-31), 3) := by decide +kernel
theorem dX7_worlds_116 : decode cX7_worlds 116 = .ok (.iload 4, 2) := by decide +kernel
theorem dX7_worlds_118 : decode cX7_worlds 118 = .ok (.aload_n 0, 1) := by decide +kernel
theorem dX7_worlds_119 : decode cX7_worlds 119 = .ok (.iload_n 1, 1) := by decide +kernel
theorem dX7_worlds_120 : decode cX7_worlds 120 = .ok (.invokevirtual 171, 3) := by decide +kernel
theorem dX7_worlds_123 : decode cX7_worlds 123 = .ok (.ifCond .eq 7, 3) := by decide +kernel
theorem dX7_worlds_126 : decode cX7_worlds 126 = .ok (.iconst 1, 1) := by decide +kernel
theorem dX7_worlds_127 : decode cX7_worlds 127 = .ok (.goto 4, 3) := by decide +kernel
theorem dX7_worlds_130 : decode cX7_worlds 130 = .ok (.iconst 0, 1) := by decide +kernel
theorem dX7_worlds_131 : decode cX7_worlds 131 = .ok (.iadd, 1) := by decide +kernel
theorem dX7_worlds_132 : decode cX7_worlds 132 = .ok (.istore 4, 2) := by decide +kernel
theorem dX7_worlds_134 : decode cX7_worlds 134 = .ok (.iinc 5 1, 3) := by decide +kernel
theorem dX7_worlds_137 : decode cX7_worlds 137 = .ok (.goto (-75), 3) := by decide +kernel
theorem dX7_worlds_140 : decode cX7_worlds 140 = .ok (.iload 4, 2) := by decide +kernel
theorem dX7_worlds_142 : decode cX7_worlds 142 = .ok (.ireturn, 1) := by decide +kernel
set_option maxRecDepth 20000 in
theorem ggX7_lootFrom_X7_lootOf : GoodIn wsX7_lootFrom wsX7_lootOf := goodIn_r _ [6, 1, 7, 8, 9, 10, 11, 12, 13, 14, 15] (by decide +kernel) (by decide +kernel)
set_option maxRecDepth 20000 in
theorem gX7_lootFrom_X7_lootOf : GoodIn wsX7_lootFrom (wsV RX7 165 RX7 yX7_lootOf wsX7_lootOf) := goodIn_app (goodIn_of _ (by decide +kernel)) ggX7_lootFrom_X7_lootOf
theorem dX7_lootFrom_0 : decode cX7_lootFrom 0 = .ok (.iconst 0, 1) := by decide +kernel
theorem dX7_lootFrom_1 : decode cX7_lootFrom 1 = .ok (.istore_n 3, 1) := by decide +kernel
theorem dX7_lootFrom_2 : decode cX7_lootFrom 2 = .ok (.iload_n 3, 1) := by decide +kernel
theorem dX7_lootFrom_3 : decode cX7_lootFrom 3 = .ok (.aload_n 0, 1) := by decide +kernel
theorem dX7_lootFrom_4 : decode cX7_lootFrom 4 = .ok (.getfield 7, 3) := by decide +kernel
theorem dX7_lootFrom_7 : decode cX7_lootFrom 7 = .ok (.sipush 367, 3) := by decide +kernel
theorem dX7_lootFrom_10 : decode cX7_lootFrom 10 = .ok (.iaload, 1) := by decide +kernel
theorem dX7_lootFrom_11 : decode cX7_lootFrom 11 = .ok (.if_icmp .ge 35, 3) := by decide +kernel
theorem dX7_lootFrom_14 : decode cX7_lootFrom 14 = .ok (.aload_n 0, 1) := by decide +kernel
theorem dX7_lootFrom_15 : decode cX7_lootFrom 15 = .ok (.iload_n 3, 1) := by decide +kernel
theorem dX7_lootFrom_16 : decode cX7_lootFrom 16 = .ok (.iconst 0, 1) := by decide +kernel
theorem dX7_lootFrom_17 : decode cX7_lootFrom 17 = .ok (.invokevirtual 165, 3) := by decide +kernel
theorem dX7_lootFrom_20 : decode cX7_lootFrom 20 = .ok (.iload_n 1, 1) := by decide +kernel
theorem dX7_lootFrom_21 : decode cX7_lootFrom 21 = .ok (.if_icmp .ne 19, 3) := by decide +kernel
theorem dX7_lootFrom_24 : decode cX7_lootFrom 24 = .ok (.iload_n 2, 1) := by decide +kernel
theorem dX7_lootFrom_25 : decode cX7_lootFrom 25 = .ok (.ifCond .lt 13, 3) := by decide +kernel
theorem dX7_lootFrom_28 : decode cX7_lootFrom 28 = .ok (.aload_n 0, 1) := by decide +kernel
theorem dX7_lootFrom_29 : decode cX7_lootFrom 29 = .ok (.iload_n 3, 1) := by decide +kernel
theorem dX7_lootFrom_30 : decode cX7_lootFrom 30 = .ok (.iconst 1, 1) := by decide +kernel
theorem dX7_lootFrom_31 : decode cX7_lootFrom 31 = .ok (.invokevirtual 165, 3) := by decide +kernel
theorem dX7_lootFrom_34 : decode cX7_lootFrom 34 = .ok (.iload_n 2, 1) := by decide +kernel
theorem dX7_lootFrom_35 : decode cX7_lootFrom 35 = .ok (.if_icmp .ne 5, 3) := by decide +kernel
theorem dX7_lootFrom_38 : decode cX7_lootFrom 38 = .ok (.iload_n 3, 1) := by decide +kernel
theorem dX7_lootFrom_39 : decode cX7_lootFrom 39 = .ok (.ireturn, 1) := by decide +kernel
theorem dX7_lootFrom_40 : decode cX7_lootFrom 40 = .ok (.iinc 3 1, 3) := by decide +kernel
theorem dX7_lootFrom_43 : decode cX7_lootFrom 43 = .ok (.goto (-41), 3) := by decide +kernel
theorem dX7_lootFrom_46 : decode cX7_lootFrom 46 = .ok (.bipush (-6), 2) := by decide +kernel
theorem dX7_lootFrom_48 : decode cX7_lootFrom 48 = .ok (.ireturn, 1) := by decide +kernel
set_option maxRecDepth 20000 in
theorem ggX7_robbed_X7_lootFrom : GoodIn wsX7_robbed wsX7_lootFrom := goodIn_r _ [5, 6, 7, 8, 9, 4, 10, 11, 12, 13, 14, 15, 16, 17, 18, 19] (by decide +kernel) (by decide +kernel)
set_option maxRecDepth 20000 in
theorem gX7_robbed_X7_lootFrom : GoodIn wsX7_robbed (wsV RX7 174 RX7 yX7_lootFrom wsX7_lootFrom) := goodIn_app (goodIn_of _ (by decide +kernel)) ggX7_robbed_X7_lootFrom
theorem dX7_robbed_0 : decode cX7_robbed 0 = .ok (.iconst 0, 1) := by decide +kernel
theorem dX7_robbed_1 : decode cX7_robbed 1 = .ok (.istore_n 2, 1) := by decide +kernel
theorem dX7_robbed_2 : decode cX7_robbed 2 = .ok (.iconst 1, 1) := by decide +kernel
theorem dX7_robbed_3 : decode cX7_robbed 3 = .ok (.istore_n 3, 1) := by decide +kernel
theorem dX7_robbed_4 : decode cX7_robbed 4 = .ok (.iload_n 3, 1) := by decide +kernel
theorem dX7_robbed_5 : decode cX7_robbed 5 = .ok (.bipush 7, 2) := by decide +kernel
theorem dX7_robbed_7 : decode cX7_robbed 7 = .ok (.if_icmp .gt 28, 3) := by decide +kernel
theorem dX7_robbed_10 : decode cX7_robbed 10 = .ok (.iload_n 2, 1) := by decide +kernel
theorem dX7_robbed_11 : decode cX7_robbed 11 = .ok (.aload_n 0, 1) := by decide +kernel
theorem dX7_robbed_12 : decode cX7_robbed 12 = .ok (.iload_n 3, 1) := by decide +kernel
theorem dX7_robbed_13 : decode cX7_robbed 13 = .ok (.iload_n 1, 1) := by decide +kernel
theorem dX7_robbed_14 : decode cX7_robbed 14 = .ok (.invokevirtual 174, 3) := by decide +kernel
theorem dX7_robbed_17 : decode cX7_robbed 17 = .ok (.ifCond .lt 9, 3) := by decide +kernel
theorem dX7_robbed_20 : decode cX7_robbed 20 = .ok (.iconst 1, 1) := by decide +kernel
theorem dX7_robbed_21 : decode cX7_robbed 21 = .ok (.iload_n 3, 1) := by decide +kernel
theorem dX7_robbed_22 : decode cX7_robbed 22 = .ok (.ishl, 1) := by decide +kernel
theorem dX7_robbed_23 : decode cX7_robbed 23 = .ok (.goto 4, 3) := by decide +kernel
theorem dX7_robbed_26 : decode cX7_robbed 26 = .ok (.iconst 0, 1) := by decide +kernel
theorem dX7_robbed_27 : decode cX7_robbed 27 = .ok (.ior, 1) := by decide +kernel
theorem dX7_robbed_28 : decode cX7_robbed 28 = .ok (.istore_n 2, 1) := by decide +kernel
theorem dX7_robbed_29 : decode cX7_robbed 29 = .ok (.iinc 3 1, 3) := by decide +kernel
theorem dX7_robbed_32 : decode cX7_robbed 32 = .ok (.goto (-28), 3) := by decide +kernel
theorem dX7_robbed_35 : decode cX7_robbed 35 = .ok (.iload_n 2, 1) := by decide +kernel
theorem dX7_robbed_36 : decode cX7_robbed 36 = .ok (.ireturn, 1) := by decide +kernel
set_option maxRecDepth 20000 in
theorem ggX7_opened_X7_has : GoodIn wsX7_opened wsX7_has := goodIn_r _ [4] (by decide +kernel) (by decide +kernel)
set_option maxRecDepth 20000 in
theorem gX7_opened_X7_has : GoodIn wsX7_opened (va_wsS RX7 88 yX7_has wsX7_has) := goodIn_app (goodIn_of _ (by decide +kernel)) ggX7_opened_X7_has
set_option maxRecDepth 20000 in
theorem ggX7_opened_X7_lootFrom : GoodIn wsX7_opened wsX7_lootFrom := goodIn_r _ [8, 9, 10, 11, 12, 3, 13, 26, 27, 28, 29, 30, 31, 32, 33, 34] (by decide +kernel) (by decide +kernel)
set_option maxRecDepth 20000 in
theorem gX7_opened_X7_lootFrom : GoodIn wsX7_opened (wsV RX7 174 RX7 yX7_lootFrom wsX7_lootFrom) := goodIn_app (goodIn_of _ (by decide +kernel)) ggX7_opened_X7_lootFrom
set_option maxRecDepth 20000 in
theorem ggX7_opened_X7_lootOf : GoodIn wsX7_opened wsX7_lootOf := goodIn_r _ [13, 9, 26, 27, 28, 29, 30, 31, 32, 33, 34] (by decide +kernel) (by decide +kernel)
set_option maxRecDepth 20000 in
theorem gX7_opened_X7_lootOf : GoodIn wsX7_opened (wsV RX7 165 RX7 yX7_lootOf wsX7_lootOf) := goodIn_app (goodIn_of _ (by decide +kernel)) ggX7_opened_X7_lootOf
set_option maxRecDepth 20000 in
theorem ggX7_opened_X7_weight : GoodIn wsX7_opened wsX7_weight := goodIn_r _ [16, 1, 2, 3, 4, 17, 18, 19, 20, 21, 22, 23, 24, 25] (by decide +kernel) (by decide +kernel)
set_option maxRecDepth 20000 in
theorem gX7_opened_X7_weight : GoodIn wsX7_opened (va_wsS RX7 94 yX7_weight wsX7_weight) := goodIn_app (goodIn_of _ (by decide +kernel)) ggX7_opened_X7_weight
theorem dX7_opened_0 : decode cX7_opened 0 = .ok (.iconst 0, 1) := by decide +kernel
theorem dX7_opened_1 : decode cX7_opened 1 = .ok (.istore_n 3, 1) := by decide +kernel
theorem dX7_opened_2 : decode cX7_opened 2 = .ok (.iconst 1, 1) := by decide +kernel
theorem dX7_opened_3 : decode cX7_opened 3 = .ok (.istore 4, 2) := by decide +kernel
theorem dX7_opened_5 : decode cX7_opened 5 = .ok (.iload 4, 2) := by decide +kernel
theorem dX7_opened_7 : decode cX7_opened 7 = .ok (.bipush 7, 2) := by decide +kernel
theorem dX7_opened_9 : decode cX7_opened 9 = .ok (.if_icmp .gt 45, 3) := by decide +kernel
theorem dX7_opened_12 : decode cX7_opened 12 = .ok (.iload_n 3, 1) := by decide +kernel
theorem dX7_opened_13 : decode cX7_opened 13 = .ok (.iload_n 1, 1) := by decide +kernel
theorem dX7_opened_14 : decode cX7_opened 14 = .ok (.iload 4, 2) := by decide +kernel
theorem dX7_opened_16 : decode cX7_opened 16 = .ok (.invokestatic 88, 3) := by decide +kernel
theorem dX7_opened_19 : decode cX7_opened 19 = .ok (.ifCond .eq 26, 3) := by decide +kernel
theorem dX7_opened_22 : decode cX7_opened 22 = .ok (.aload_n 0, 1) := by decide +kernel
theorem dX7_opened_23 : decode cX7_opened 23 = .ok (.aload_n 0, 1) := by decide +kernel
theorem dX7_opened_24 : decode cX7_opened 24 = .ok (.iload 4, 2) := by decide +kernel
theorem dX7_opened_26 : decode cX7_opened 26 = .ok (.iload_n 2, 1) := by decide +kernel
theorem dX7_opened_27 : decode cX7_opened 27 = .ok (.invokevirtual 174, 3) := by decide +kernel
theorem dX7_opened_30 : decode cX7_opened 30 = .ok (.iconst 2, 1) := by decide +kernel
theorem dX7_opened_31 : decode cX7_opened 31 = .ok (.invokevirtual 165, 3) := by decide +kernel
theorem dX7_opened_34 : decode cX7_opened 34 = .ok (.iload 4, 2) := by decide +kernel
theorem dX7_opened_36 : decode cX7_opened 36 = .ok (.iload_n 1, 1) := by decide +kernel
theorem dX7_opened_37 : decode cX7_opened 37 = .ok (.iconst 0, 1) := by decide +kernel
theorem dX7_opened_38 : decode cX7_opened 38 = .ok (.invokestatic 94, 3) := by decide +kernel
theorem dX7_opened_41 : decode cX7_opened 41 = .ok (.imul, 1) := by decide +kernel
theorem dX7_opened_42 : decode cX7_opened 42 = .ok (.goto 4, 3) := by decide +kernel
theorem dX7_opened_45 : decode cX7_opened 45 = .ok (.iconst 0, 1) := by decide +kernel
theorem dX7_opened_46 : decode cX7_opened 46 = .ok (.iadd, 1) := by decide +kernel
theorem dX7_opened_47 : decode cX7_opened 47 = .ok (.istore_n 3, 1) := by decide +kernel
theorem dX7_opened_48 : decode cX7_opened 48 = .ok (.iinc 4 1, 3) := by decide +kernel
theorem dX7_opened_51 : decode cX7_opened 51 = .ok (.goto (-46), 3) := by decide +kernel
theorem dX7_opened_54 : decode cX7_opened 54 = .ok (.iload_n 3, 1) := by decide +kernel
theorem dX7_opened_55 : decode cX7_opened 55 = .ok (.bipush 23, 2) := by decide +kernel
theorem dX7_opened_57 : decode cX7_opened 57 = .ok (.irem, 1) := by decide +kernel
theorem dX7_opened_58 : decode cX7_opened 58 = .ok (.ireturn, 1) := by decide +kernel
set_option maxRecDepth 20000 in
theorem ggX7_thief_X7_in : GoodIn wsX7_thief wsX7_in := goodIn_r _ [5] (by decide +kernel) (by decide +kernel)
set_option maxRecDepth 20000 in
theorem gX7_thief_X7_in : GoodIn wsX7_thief (va_wsS RX7 36 yX7_in wsX7_in) := goodIn_app (goodIn_of _ (by decide +kernel)) ggX7_thief_X7_in
set_option maxRecDepth 20000 in
theorem ggX7_thief_X7_isDealt : GoodIn wsX7_thief wsX7_isDealt := goodIn_r _ [9, 1, 47, 48, 49, 50, 51, 52, 53, 54, 55] (by decide +kernel) (by decide +kernel)
set_option maxRecDepth 20000 in
theorem gX7_thief_X7_isDealt : GoodIn wsX7_thief (wsV RX7 110 RX7 yX7_isDealt wsX7_isDealt) := goodIn_app (goodIn_of _ (by decide +kernel)) ggX7_thief_X7_isDealt
set_option maxRecDepth 20000 in
theorem ggX7_thief_X7_robbed : GoodIn wsX7_thief wsX7_robbed := goodIn_r _ [13, 14, 15, 16, 4, 17, 1, 18, 19, 20, 21, 47, 48, 49, 50, 51, 52, 53, 54, 55] (by decide +kernel) (by decide +kernel)
set_option maxRecDepth 20000 in
theorem gX7_thief_X7_robbed : GoodIn wsX7_thief (wsV RX7 177 RX7 yX7_robbed wsX7_robbed) := goodIn_app (goodIn_of _ (by decide +kernel)) ggX7_thief_X7_robbed
set_option maxRecDepth 20000 in
theorem ggX7_thief_X7_bits : GoodIn wsX7_thief wsX7_bits := goodIn_r _ [24] (by decide +kernel) (by decide +kernel)
set_option maxRecDepth 20000 in
theorem gX7_thief_X7_bits : GoodIn wsX7_thief (va_wsS RX7 120 yX7_bits wsX7_bits) := goodIn_app (goodIn_of _ (by decide +kernel)) ggX7_thief_X7_bits
set_option maxRecDepth 20000 in
theorem ggX7_thief_X7_firstOf : GoodIn wsX7_thief wsX7_firstOf := goodIn_r _ [27, 28, 29, 4, 30, 22, 23, 24] (by decide +kernel) (by decide +kernel)
set_option maxRecDepth 20000 in
theorem gX7_thief_X7_firstOf : GoodIn wsX7_thief (va_wsS RX7 126 yX7_firstOf wsX7_firstOf) := goodIn_app (goodIn_of _ (by decide +kernel)) ggX7_thief_X7_firstOf
set_option maxRecDepth 20000 in
theorem ggX7_thief_X7_opened : GoodIn wsX7_thief wsX7_opened := goodIn_r _ [34, 28, 29, 4, 30, 14, 15, 16, 17, 1, 18, 19, 20, 21, 35, 36, 37, 38, 39, 40, 41, 42, 43, 44, 45, 46, 47, 48, 49, 50, 51, 52, 53, 54, 55] (by decide +kernel) (by decide +kernel)
set_option maxRecDepth 20000 in
theorem gX7_thief_X7_opened : GoodIn wsX7_thief (wsV RX7 180 RX7 yX7_opened wsX7_opened) := goodIn_app (goodIn_of _ (by decide +kernel)) ggX7_thief_X7_opened
theorem dX7_thief_0 : decode cX7_thief 0 = .ok (.iload_n 1, 1) := by decide +kernel
theorem dX7_thief_1 : decode cX7_thief 1 = .ok (.iconst 0, 1) := by decide +kernel
theorem dX7_thief_2 : decode cX7_thief 2 = .ok (.iconst 2, 1) := by decide +kernel
theorem dX7_thief_3 : decode cX7_thief 3 = .ok (.invokestatic 36, 3) := by decide +kernel
theorem dX7_thief_6 : decode cX7_thief 6 = .ok (.ifCond .ne 6, 3) := by decide +kernel
theorem dX7_thief_9 : decode cX7_thief 9 = .ok (.bipush (-2), 2) := by decide +kernel
theorem dX7_thief_11 : decode cX7_thief 11 = .ok (.ireturn, 1) := by decide +kernel
theorem dX7_thief_12 : decode cX7_thief 12 = .ok (.aload_n 0, 1) := by decide +kernel
theorem dX7_thief_13 : decode cX7_thief 13 = .ok (.invokevirtual 110, 3) := by decide +kernel
theorem dX7_thief_16 : decode cX7_thief 16 = .ok (.ifCond .ne 6, 3) := by decide +kernel
theorem dX7_thief_19 : decode cX7_thief 19 = .ok (.bipush (-3), 2) := by decide +kernel
theorem dX7_thief_21 : decode cX7_thief 21 = .ok (.ireturn, 1) := by decide +kernel
theorem dX7_thief_22 : decode cX7_thief 22 = .ok (.iload_n 1, 1) := by decide +kernel
theorem dX7_thief_23 : decode cX7_thief 23 = .ok (.iconst 2, 1) := by decide +kernel
theorem dX7_thief_24 : decode cX7_thief 24 = .ok (.if_icmp .ne 47, 3) := by decide +kernel
theorem dX7_thief_27 : decode cX7_thief 27 = .ok (.aload_n 0, 1) := by decide +kernel
theorem dX7_thief_28 : decode cX7_thief 28 = .ok (.bipush (-6), 2) := by decide +kernel
theorem dX7_thief_30 : decode cX7_thief 30 = .ok (.invokevirtual 177, 3) := by decide +kernel
theorem dX7_thief_33 : decode cX7_thief 33 = .ok (.istore_n 2, 1) := by decide +kernel
theorem dX7_thief_34 : decode cX7_thief 34 = .ok (.iload_n 2, 1) := by decide +kernel
theorem dX7_thief_35 : decode cX7_thief 35 = .ok (.invokestatic 120, 3) := by decide +kernel
theorem dX7_thief_38 : decode cX7_thief 38 = .ok (.aload_n 0, 1) := by decide +kernel
theorem dX7_thief_39 : decode cX7_thief 39 = .ok (.getfield 7, 3) := by decide +kernel
theorem dX7_thief_42 : decode cX7_thief 42 = .ok (.bipush 88, 2) := by decide +kernel
theorem dX7_thief_44 : decode cX7_thief 44 = .ok (.iaload, 1) := by decide +kernel
theorem dX7_thief_45 : decode cX7_thief 45 = .ok (.if_icmp .ge 8, 3) := by decide +kernel
theorem dX7_thief_48 : decode cX7_thief 48 = .ok (.bipush (-6), 2) := by decide +kernel
theorem dX7_thief_50 : decode cX7_thief 50 = .ok (.goto 20, 3) := by decide +kernel
theorem dX7_thief_53 : decode cX7_thief 53 = .ok (.aload_n 0, 1) := by decide +kernel
theorem dX7_thief_54 : decode cX7_thief 54 = .ok (.iload_n 2, 1) := by decide +kernel
theorem dX7_thief_55 : decode cX7_thief 55 = .ok (.aload_n 0, 1) := by decide +kernel
theorem dX7_thief_56 : decode cX7_thief 56 = .ok (.getfield 7, 3) := by decide +kernel
theorem dX7_thief_59 : decode cX7_thief 59 = .ok (.bipush 88, 2) := by decide +kernel
theorem dX7_thief_61 : decode cX7_thief 61 = .ok (.iaload, 1) := by decide +kernel
theorem dX7_thief_62 : decode cX7_thief 62 = .ok (.invokestatic 126, 3) := by decide +kernel
theorem dX7_thief_65 : decode cX7_thief 65 = .ok (.bipush (-6), 2) := by decide +kernel
theorem dX7_thief_67 : decode cX7_thief 67 = .ok (.invokevirtual 180, 3) := by decide +kernel
theorem dX7_thief_70 : decode cX7_thief 70 = .ok (.ireturn, 1) := by decide +kernel
theorem dX7_thief_71 : decode cX7_thief 71 = .ok (.iconst 0, 1) := by decide +kernel
theorem dX7_thief_72 : decode cX7_thief 72 = .ok (.istore_n 2, 1) := by decide +kernel
theorem dX7_thief_73 : decode cX7_thief 73 = .ok (.iload_n 2, 1) := by decide +kernel
theorem dX7_thief_74 : decode cX7_thief 74 = .ok (.aload_n 0, 1) := by decide +kernel
theorem dX7_thief_75 : decode cX7_thief 75 = .ok (.getfield 7, 3) := by decide +kernel
theorem dX7_thief_78 : decode cX7_thief 78 = .ok (.bipush 89, 2) := by decide +kernel
theorem dX7_thief_80 : decode cX7_thief 80 = .ok (.iaload, 1) := by decide +kernel
theorem dX7_thief_81 : decode cX7_thief 81 = .ok (.if_icmp .gt 58, 3) := by decide +kernel
theorem dX7_thief_84 : decode cX7_thief 84 = .ok (.aload_n 0, 1) := by decide +kernel
theorem dX7_thief_85 : decode cX7_thief 85 = .ok (.iload_n 2, 1) := by decide +kernel
theorem dX7_thief_86 : decode cX7_thief 86 = .ok (.invokevirtual 177, 3) := by decide +kernel
theorem dX7_thief_89 : decode cX7_thief 89 = .ok (.istore_n 3, 1) := by decide +kernel
theorem dX7_thief_90 : decode cX7_thief 90 = .ok (.iload_n 3, 1) := by decide +kernel
theorem dX7_thief_91 : decode cX7_thief 91 = .ok (.invokestatic 120, 3) := by decide +kernel
theorem dX7_thief_94 : decode cX7_thief 94 = .ok (.aload_n 0, 1) := by decide +kernel
theorem dX7_thief_95 : decode cX7_thief 95 = .ok (.getfield 7, 3) := by decide +kernel
theorem dX7_thief_98 : decode cX7_thief 98 = .ok (.bipush 95, 2) := by decide +kernel
theorem dX7_thief_100 : decode cX7_thief 100 = .ok (.iload_n 2, 1) := by decide +kernel
theorem dX7_thief_101 : decode cX7_thief 101 = .ok (.iadd, 1) := by decide +kernel
theorem dX7_thief_102 : decode cX7_thief 102 = .ok (.iaload, 1) := by decide +kernel
theorem dX7_thief_103 : decode cX7_thief 103 = .ok (.if_icmp .lt 30, 3) := by decide +kernel
theorem dX7_thief_106 : decode cX7_thief 106 = .ok (.iload_n 1, 1) := by decide +kernel
theorem dX7_thief_107 : decode cX7_thief 107 = .ok (.ifCond .ne 7, 3) := by decide +kernel
theorem dX7_thief_110 : decode cX7_thief 110 = .ok (.iload_n 2, 1) := by decide +kernel
theorem dX7_thief_111 : decode cX7_thief 111 = .ok (.goto 21, 3) := by decide +kernel
theorem dX7_thief_114 : decode cX7_thief 114 = .ok (.aload_n 0, 1) := by decide +kernel
theorem dX7_thief_115 : decode cX7_thief 115 = .ok (.iload_n 3, 1) := by decide +kernel
theorem dX7_thief_116 : decode cX7_thief 116 = .ok (.aload_n 0, 1) := by decide +kernel
theorem dX7_thief_117 : decode cX7_thief 117 = .ok (.getfield 7, 3) := by decide +kernel
theorem dX7_thief_120 : decode cX7_thief 120 = .ok (.bipush 95, 2) := by decide +kernel
theorem dX7_thief_122 : decode cX7_thief 122 = .ok (.iload_n 2, 1) := by decide +kernel
theorem dX7_thief_123 : decode cX7_thief 123 = .ok (.iadd, 1) := by decide +kernel
theorem dX7_thief_124 : decode cX7_thief 124 = .ok (.iaload, 1) := by decide +kernel
theorem dX7_thief_125 : decode cX7_thief 125 = .ok (.invokestatic 126, 3) := by decide +kernel
theorem dX7_thief_128 : decode cX7_thief 128 = .ok (.iload_n 2, 1) := by decide +kernel
theorem dX7_thief_129 : decode cX7_thief 129 = .ok (.invokevirtual 180, 3) := by decide +kernel
theorem dX7_thief_132 : decode cX7_thief 132 = .ok (.ireturn, 1) := by decide +kernel
theorem dX7_thief_133 : decode cX7_thief 133 = .ok (.iinc 2 1, 3) := by decide +kernel
theorem dX7_thief_136 : decode cX7_thief 136 = .ok (.goto (-63), 3) := by decide +kernel
theorem dX7_thief_139 : decode cX7_thief 139 = .ok (.bipush (-6), 2) := by decide +kernel
theorem dX7_thief_141 : decode cX7_thief 141 = .ok (.ireturn, 1) := by decide +kernel
set_option maxRecDepth 20000 in
theorem ggX7_image_X7_in : GoodIn wsX7_image wsX7_in := goodIn_r _ [7] (by decide +kernel) (by decide +kernel)
set_option maxRecDepth 20000 in
theorem gX7_image_X7_in : GoodIn wsX7_image (va_wsS RX7 36 yX7_in wsX7_in) := goodIn_app (goodIn_of _ (by decide +kernel)) ggX7_image_X7_in
theorem dX7_image_0 : decode cX7_image 0 = .ok (.iload_n 1, 1) := by decide +kernel
theorem dX7_image_1 : decode cX7_image 1 = .ok (.iconst 0, 1) := by decide +kernel
theorem dX7_image_2 : decode cX7_image 2 = .ok (.iconst 1, 1) := by decide +kernel
theorem dX7_image_3 : decode cX7_image 3 = .ok (.invokestatic 36, 3) := by decide +kernel
theorem dX7_image_6 : decode cX7_image 6 = .ok (.ifCond .ne 6, 3) := by decide +kernel
theorem dX7_image_9 : decode cX7_image 9 = .ok (.bipush (-2), 2) := by decide +kernel
theorem dX7_image_11 : decode cX7_image 11 = .ok (.ireturn, 1) := by decide +kernel
theorem dX7_image_12 : decode cX7_image 12 = .ok (.iconst 0, 1) := by decide +kernel
theorem dX7_image_13 : decode cX7_image 13 = .ok (.istore_n 2, 1) := by decide +kernel
theorem dX7_image_14 : decode cX7_image 14 = .ok (.iload_n 2, 1) := by decide +kernel
theorem dX7_image_15 : decode cX7_image 15 = .ok (.sipush 371, 3) := by decide +kernel
theorem dX7_image_18 : decode cX7_image 18 = .ok (.if_icmp .ge 27, 3) := by decide +kernel
theorem dX7_image_21 : decode cX7_image 21 = .ok (.aload_n 0, 1) := by decide +kernel
theorem dX7_image_22 : decode cX7_image 22 = .ok (.getfield 25, 3) := by decide +kernel
theorem dX7_image_25 : decode cX7_image 25 = .ok (.sipush 371, 3) := by decide +kernel
theorem dX7_image_28 : decode cX7_image 28 = .ok (.iload_n 1, 1) := by decide +kernel
theorem dX7_image_29 : decode cX7_image 29 = .ok (.imul, 1) := by decide +kernel
theorem dX7_image_30 : decode cX7_image 30 = .ok (.iload_n 2, 1) := by decide +kernel
theorem dX7_image_31 : decode cX7_image 31 = .ok (.iadd, 1) := by decide +kernel
theorem dX7_image_32 : decode cX7_image 32 = .ok (.aload_n 0, 1) := by decide +kernel
theorem dX7_image_33 : decode cX7_image 33 = .ok (.getfield 7, 3) := by decide +kernel
theorem dX7_image_36 : decode cX7_image 36 = .ok (.iload_n 2, 1) := by decide +kernel
theorem dX7_image_37 : decode cX7_image 37 = .ok (.iaload, 1) := by decide +kernel
theorem dX7_image_38 : decode cX7_image 38 = .ok (.iastore, 1) := by decide +kernel
theorem dX7_image_39 : decode cX7_image 39 = .ok (.iinc 2 1, 3) := by decide +kernel
theorem dX7_image_42 : decode cX7_image 42 = .ok (.goto (-28), 3) := by decide +kernel
theorem dX7_image_45 : decode cX7_image 45 = .ok (.aload_n 0, 1) := by decide +kernel
theorem dX7_image_46 : decode cX7_image 46 = .ok (.getfield 28, 3) := by decide +kernel
theorem dX7_image_49 : decode cX7_image 49 = .ok (.iload_n 1, 1) := by decide +kernel
theorem dX7_image_50 : decode cX7_image 50 = .ok (.iconst 1, 1) := by decide +kernel
theorem dX7_image_51 : decode cX7_image 51 = .ok (.bastore, 1) := by decide +kernel
theorem dX7_image_52 : decode cX7_image 52 = .ok (.iconst 1, 1) := by decide +kernel
theorem dX7_image_53 : decode cX7_image 53 = .ok (.ireturn, 1) := by decide +kernel
set_option maxRecDepth 20000 in
theorem ggX7_restore_X7_in : GoodIn wsX7_restore wsX7_in := goodIn_r _ [7] (by decide +kernel) (by decide +kernel)
set_option maxRecDepth 20000 in
theorem gX7_restore_X7_in : GoodIn wsX7_restore (va_wsS RX7 36 yX7_in wsX7_in) := goodIn_app (goodIn_of _ (by decide +kernel)) ggX7_restore_X7_in
theorem dX7_restore_0 : decode cX7_restore 0 = .ok (.iload_n 1, 1) := by decide +kernel
theorem dX7_restore_1 : decode cX7_restore 1 = .ok (.iconst 0, 1) := by decide +kernel
theorem dX7_restore_2 : decode cX7_restore 2 = .ok (.iconst 1, 1) := by decide +kernel
theorem dX7_restore_3 : decode cX7_restore 3 = .ok (.invokestatic 36, 3) := by decide +kernel
theorem dX7_restore_6 : decode cX7_restore 6 = .ok (.ifCond .ne 6, 3) := by decide +kernel
theorem dX7_restore_9 : decode cX7_restore 9 = .ok (.bipush (-2), 2) := by decide +kernel
theorem dX7_restore_11 : decode cX7_restore 11 = .ok (.ireturn, 1) := by decide +kernel
theorem dX7_restore_12 : decode cX7_restore 12 = .ok (.aload_n 0, 1) := by decide +kernel
theorem dX7_restore_13 : decode cX7_restore 13 = .ok (.getfield 28, 3) := by decide +kernel
theorem dX7_restore_16 : decode cX7_restore 16 = .ok (.iload_n 1, 1) := by decide +kernel
theorem dX7_restore_17 : decode cX7_restore 17 = .ok (.baload, 1) := by decide +kernel
theorem dX7_restore_18 : decode cX7_restore 18 = .ok (.ifCond .ne 6, 3) := by decide +kernel
theorem dX7_restore_21 : decode cX7_restore 21 = .ok (.bipush (-5), 2) := by decide +kernel
theorem dX7_restore_23 : decode cX7_restore 23 = .ok (.ireturn, 1) := by decide +kernel
theorem dX7_restore_24 : decode cX7_restore 24 = .ok (.iconst 0, 1) := by decide +kernel
theorem dX7_restore_25 : decode cX7_restore 25 = .ok (.istore_n 2, 1) := by decide +kernel
theorem dX7_restore_26 : decode cX7_restore 26 = .ok (.iload_n 2, 1) := by decide +kernel
theorem dX7_restore_27 : decode cX7_restore 27 = .ok (.sipush 371, 3) := by decide +kernel
theorem dX7_restore_30 : decode cX7_restore 30 = .ok (.if_icmp .ge 27, 3) := by decide +kernel
theorem dX7_restore_33 : decode cX7_restore 33 = .ok (.aload_n 0, 1) := by decide +kernel
theorem dX7_restore_34 : decode cX7_restore 34 = .ok (.getfield 7, 3) := by decide +kernel
theorem dX7_restore_37 : decode cX7_restore 37 = .ok (.iload_n 2, 1) := by decide +kernel
theorem dX7_restore_38 : decode cX7_restore 38 = .ok (.aload_n 0, 1) := by decide +kernel
theorem dX7_restore_39 : decode cX7_restore 39 = .ok (.getfield 25, 3) := by decide +kernel
theorem dX7_restore_42 : decode cX7_restore 42 = .ok (.sipush 371, 3) := by decide +kernel
theorem dX7_restore_45 : decode cX7_restore 45 = .ok (.iload_n 1, 1) := by decide +kernel
theorem dX7_restore_46 : decode cX7_restore 46 = .ok (.imul, 1) := by decide +kernel
theorem dX7_restore_47 : decode cX7_restore 47 = .ok (.iload_n 2, 1) := by decide +kernel
theorem dX7_restore_48 : decode cX7_restore 48 = .ok (.iadd, 1) := by decide +kernel
theorem dX7_restore_49 : decode cX7_restore 49 = .ok (.iaload, 1) := by decide +kernel
theorem dX7_restore_50 : decode cX7_restore 50 = .ok (.iastore, 1) := by decide +kernel
theorem dX7_restore_51 : decode cX7_restore 51 = .ok (.iinc 2 1, 3) := by decide +kernel
theorem dX7_restore_54 : decode cX7_restore 54 = .ok (.goto (-28), 3) := by decide +kernel
theorem dX7_restore_57 : decode cX7_restore 57 = .ok (.iconst 1, 1) := by decide +kernel
theorem dX7_restore_58 : decode cX7_restore 58 = .ok (.ireturn, 1) := by decide +kernel
set_option maxRecDepth 20000 in
theorem ggX7_count_X7_having : GoodIn wsX7_count wsX7_having := goodIn_r _ [8, 9, 10, 11, 7, 12, 1, 23, 24, 25, 26, 27, 28, 29, 30, 31] (by decide +kernel) (by decide +kernel)
set_option maxRecDepth 20000 in
theorem gX7_count_X7_having : GoodIn wsX7_count (wsV RX7 117 RX7 yX7_having wsX7_having) := goodIn_app (goodIn_of _ (by decide +kernel)) ggX7_count_X7_having
set_option maxRecDepth 20000 in
theorem ggX7_count_X7_bits : GoodIn wsX7_count wsX7_bits := goodIn_r _ [15] (by decide +kernel) (by decide +kernel)
set_option maxRecDepth 20000 in
theorem gX7_count_X7_bits : GoodIn wsX7_count (va_wsS RX7 120 yX7_bits wsX7_bits) := goodIn_app (goodIn_of _ (by decide +kernel)) ggX7_count_X7_bits
set_option maxRecDepth 20000 in
theorem ggX7_count_X7_isEpoch : GoodIn wsX7_count wsX7_isEpoch := goodIn_r _ [19, 1, 20, 21, 7, 22, 23, 24, 25, 26, 27, 28, 29, 30, 31] (by decide +kernel) (by decide +kernel)
set_option maxRecDepth 20000 in
theorem gX7_count_X7_isEpoch : GoodIn wsX7_count (wsV RX7 168 RX7 yX7_isEpoch wsX7_isEpoch) := goodIn_app (goodIn_of _ (by decide +kernel)) ggX7_count_X7_isEpoch
theorem dX7_count_0 : decode cX7_count 0 = .ok (.iload_n 1, 1) := by decide +kernel
theorem dX7_count_1 : decode cX7_count 1 = .ok (.tableswitch 129 0 7 #[47, 55, 63, 71, 76, 85, 94, 99], 47) := by decide +kernel
theorem dX7_count_48 : decode cX7_count 48 = .ok (.aload_n 0, 1) := by decide +kernel
theorem dX7_count_49 : decode cX7_count 49 = .ok (.getfield 7, 3) := by decide +kernel
theorem dX7_count_52 : decode cX7_count 52 = .ok (.bipush 88, 2) := by decide +kernel
theorem dX7_count_54 : decode cX7_count 54 = .ok (.iaload, 1) := by decide +kernel
theorem dX7_count_55 : decode cX7_count 55 = .ok (.ireturn, 1) := by decide +kernel
theorem dX7_count_56 : decode cX7_count 56 = .ok (.aload_n 0, 1) := by decide +kernel
theorem dX7_count_57 : decode cX7_count 57 = .ok (.getfield 7, 3) := by decide +kernel
theorem dX7_count_60 : decode cX7_count 60 = .ok (.bipush 89, 2) := by decide +kernel
theorem dX7_count_62 : decode cX7_count 62 = .ok (.iaload, 1) := by decide +kernel
theorem dX7_count_63 : decode cX7_count 63 = .ok (.ireturn, 1) := by decide +kernel
theorem dX7_count_64 : decode cX7_count 64 = .ok (.aload_n 0, 1) := by decide +kernel
theorem dX7_count_65 : decode cX7_count 65 = .ok (.invokevirtual 117, 3) := by decide +kernel
theorem dX7_count_68 : decode cX7_count 68 = .ok (.invokestatic 120, 3) := by decide +kernel
theorem dX7_count_71 : decode cX7_count 71 = .ok (.ireturn, 1) := by decide +kernel
theorem dX7_count_72 : decode cX7_count 72 = .ok (.aload_n 0, 1) := by decide +kernel
theorem dX7_count_73 : decode cX7_count 73 = .ok (.invokevirtual 117, 3) := by decide +kernel
theorem dX7_count_76 : decode cX7_count 76 = .ok (.ireturn, 1) := by decide +kernel
theorem dX7_count_77 : decode cX7_count 77 = .ok (.aload_n 0, 1) := by decide +kernel
theorem dX7_count_78 : decode cX7_count 78 = .ok (.getfield 7, 3) := by decide +kernel
theorem dX7_count_81 : decode cX7_count 81 = .ok (.sipush 367, 3) := by decide +kernel
theorem dX7_count_84 : decode cX7_count 84 = .ok (.iaload, 1) := by decide +kernel
theorem dX7_count_85 : decode cX7_count 85 = .ok (.ireturn, 1) := by decide +kernel
theorem dX7_count_86 : decode cX7_count 86 = .ok (.aload_n 0, 1) := by decide +kernel
theorem dX7_count_87 : decode cX7_count 87 = .ok (.getfield 7, 3) := by decide +kernel
theorem dX7_count_90 : decode cX7_count 90 = .ok (.sipush 368, 3) := by decide +kernel
theorem dX7_count_93 : decode cX7_count 93 = .ok (.iaload, 1) := by decide +kernel
theorem dX7_count_94 : decode cX7_count 94 = .ok (.ireturn, 1) := by decide +kernel
theorem dX7_count_95 : decode cX7_count 95 = .ok (.aload_n 0, 1) := by decide +kernel
theorem dX7_count_96 : decode cX7_count 96 = .ok (.getfield 71, 3) := by decide +kernel
theorem dX7_count_99 : decode cX7_count 99 = .ok (.ireturn, 1) := by decide +kernel
theorem dX7_count_100 : decode cX7_count 100 = .ok (.aload_n 0, 1) := by decide +kernel
theorem dX7_count_101 : decode cX7_count 101 = .ok (.getfield 28, 3) := by decide +kernel
theorem dX7_count_104 : decode cX7_count 104 = .ok (.iconst 0, 1) := by decide +kernel
theorem dX7_count_105 : decode cX7_count 105 = .ok (.baload, 1) := by decide +kernel
theorem dX7_count_106 : decode cX7_count 106 = .ok (.ifCond .eq 7, 3) := by decide +kernel
theorem dX7_count_109 : decode cX7_count 109 = .ok (.iconst 1, 1) := by decide +kernel
theorem dX7_count_110 : decode cX7_count 110 = .ok (.goto 4, 3) := by decide +kernel
theorem dX7_count_113 : decode cX7_count 113 = .ok (.iconst 0, 1) := by decide +kernel
theorem dX7_count_114 : decode cX7_count 114 = .ok (.aload_n 0, 1) := by decide +kernel
theorem dX7_count_115 : decode cX7_count 115 = .ok (.getfield 28, 3) := by decide +kernel
theorem dX7_count_118 : decode cX7_count 118 = .ok (.iconst 1, 1) := by decide +kernel
theorem dX7_count_119 : decode cX7_count 119 = .ok (.baload, 1) := by decide +kernel
theorem dX7_count_120 : decode cX7_count 120 = .ok (.ifCond .eq 7, 3) := by decide +kernel
theorem dX7_count_123 : decode cX7_count 123 = .ok (.iconst 2, 1) := by decide +kernel
theorem dX7_count_124 : decode cX7_count 124 = .ok (.goto 4, 3) := by decide +kernel
theorem dX7_count_127 : decode cX7_count 127 = .ok (.iconst 0, 1) := by decide +kernel
theorem dX7_count_128 : decode cX7_count 128 = .ok (.iadd, 1) := by decide +kernel
theorem dX7_count_129 : decode cX7_count 129 = .ok (.ireturn, 1) := by decide +kernel
theorem dX7_count_130 : decode cX7_count 130 = .ok (.iload_n 1, 1) := by decide +kernel
theorem dX7_count_131 : decode cX7_count 131 = .ok (.bipush 9, 2) := by decide +kernel
theorem dX7_count_133 : decode cX7_count 133 = .ok (.if_icmp .le 29, 3) := by decide +kernel
theorem dX7_count_136 : decode cX7_count 136 = .ok (.aload_n 0, 1) := by decide +kernel
theorem dX7_count_137 : decode cX7_count 137 = .ok (.iload_n 1, 1) := by decide +kernel
theorem dX7_count_138 : decode cX7_count 138 = .ok (.bipush 10, 2) := by decide +kernel
theorem dX7_count_140 : decode cX7_count 140 = .ok (.isub, 1) := by decide +kernel
theorem dX7_count_141 : decode cX7_count 141 = .ok (.invokevirtual 168, 3) := by decide +kernel
theorem dX7_count_144 : decode cX7_count 144 = .ok (.ifCond .eq 18, 3) := by decide +kernel
theorem dX7_count_147 : decode cX7_count 147 = .ok (.aload_n 0, 1) := by decide +kernel
theorem dX7_count_148 : decode cX7_count 148 = .ok (.getfield 7, 3) := by decide +kernel
theorem dX7_count_151 : decode cX7_count 151 = .ok (.bipush 95, 2) := by decide +kernel
theorem dX7_count_153 : decode cX7_count 153 = .ok (.iload_n 1, 1) := by decide +kernel
theorem dX7_count_154 : decode cX7_count 154 = .ok (.iadd, 1) := by decide +kernel
theorem dX7_count_155 : decode cX7_count 155 = .ok (.bipush 10, 2) := by decide +kernel
theorem dX7_count_157 : decode cX7_count 157 = .ok (.isub, 1) := by decide +kernel
theorem dX7_count_158 : decode cX7_count 158 = .ok (.iaload, 1) := by decide +kernel
theorem dX7_count_159 : decode cX7_count 159 = .ok (.goto 5, 3) := by decide +kernel
theorem dX7_count_162 : decode cX7_count 162 = .ok (.bipush (-2), 2) := by decide +kernel
theorem dX7_count_164 : decode cX7_count 164 = .ok (.ireturn, 1) := by decide +kernel
theorem dJ6_bitCount_0f7a4_0 : decode cJ6_bitCount_0f7a4 0 = .ok (.iload_n 0, 1) := by decide +kernel
theorem dJ6_bitCount_0f7a4_1 : decode cJ6_bitCount_0f7a4 1 = .ok (.iload_n 0, 1) := by decide +kernel
theorem dJ6_bitCount_0f7a4_2 : decode cJ6_bitCount_0f7a4 2 = .ok (.iconst 1, 1) := by decide +kernel
theorem dJ6_bitCount_0f7a4_3 : decode cJ6_bitCount_0f7a4 3 = .ok (.iushr, 1) := by decide +kernel
theorem dJ6_bitCount_0f7a4_4 : decode cJ6_bitCount_0f7a4 4 = .ok (.ldc_w 265, 3) := by decide +kernel
theorem dJ6_bitCount_0f7a4_7 : decode cJ6_bitCount_0f7a4 7 = .ok (.iand, 1) := by decide +kernel
theorem dJ6_bitCount_0f7a4_8 : decode cJ6_bitCount_0f7a4 8 = .ok (.isub, 1) := by decide +kernel
theorem dJ6_bitCount_0f7a4_9 : decode cJ6_bitCount_0f7a4 9 = .ok (.istore_n 0, 1) := by decide +kernel
theorem dJ6_bitCount_0f7a4_10 : decode cJ6_bitCount_0f7a4 10 = .ok (.iload_n 0, 1) := by decide +kernel
theorem dJ6_bitCount_0f7a4_11 : decode cJ6_bitCount_0f7a4 11 = .ok (.ldc_w 266, 3) := by decide +kernel
theorem dJ6_bitCount_0f7a4_14 : decode cJ6_bitCount_0f7a4 14 = .ok (.iand, 1) := by decide +kernel
theorem dJ6_bitCount_0f7a4_15 : decode cJ6_bitCount_0f7a4 15 = .ok (.iload_n 0, 1) := by decide +kernel
theorem dJ6_bitCount_0f7a4_16 : decode cJ6_bitCount_0f7a4 16 = .ok (.iconst 2, 1) := by decide +kernel
theorem dJ6_bitCount_0f7a4_17 : decode cJ6_bitCount_0f7a4 17 = .ok (.iushr, 1) := by decide +kernel
theorem dJ6_bitCount_0f7a4_18 : decode cJ6_bitCount_0f7a4 18 = .ok (.ldc_w 266, 3) := by decide +kernel
theorem dJ6_bitCount_0f7a4_21 : decode cJ6_bitCount_0f7a4 21 = .ok (.iand, 1) := by decide +kernel
theorem dJ6_bitCount_0f7a4_22 : decode cJ6_bitCount_0f7a4 22 = .ok (.iadd, 1) := by decide +kernel
theorem dJ6_bitCount_0f7a4_23 : decode cJ6_bitCount_0f7a4 23 = .ok (.istore_n 0, 1) := by decide +kernel
theorem dJ6_bitCount_0f7a4_24 : decode cJ6_bitCount_0f7a4 24 = .ok (.iload_n 0, 1) := by decide +kernel
theorem dJ6_bitCount_0f7a4_25 : decode cJ6_bitCount_0f7a4 25 = .ok (.iload_n 0, 1) := by decide +kernel
theorem dJ6_bitCount_0f7a4_26 : decode cJ6_bitCount_0f7a4 26 = .ok (.iconst 4, 1) := by decide +kernel
theorem dJ6_bitCount_0f7a4_27 : decode cJ6_bitCount_0f7a4 27 = .ok (.iushr, 1) := by decide +kernel
theorem dJ6_bitCount_0f7a4_28 : decode cJ6_bitCount_0f7a4 28 = .ok (.iadd, 1) := by decide +kernel
theorem dJ6_bitCount_0f7a4_29 : decode cJ6_bitCount_0f7a4 29 = .ok (.ldc_w 267, 3) := by decide +kernel
theorem dJ6_bitCount_0f7a4_32 : decode cJ6_bitCount_0f7a4 32 = .ok (.iand, 1) := by decide +kernel
theorem dJ6_bitCount_0f7a4_33 : decode cJ6_bitCount_0f7a4 33 = .ok (.istore_n 0, 1) := by decide +kernel
theorem dJ6_bitCount_0f7a4_34 : decode cJ6_bitCount_0f7a4 34 = .ok (.iload_n 0, 1) := by decide +kernel
theorem dJ6_bitCount_0f7a4_35 : decode cJ6_bitCount_0f7a4 35 = .ok (.iload_n 0, 1) := by decide +kernel
theorem dJ6_bitCount_0f7a4_36 : decode cJ6_bitCount_0f7a4 36 = .ok (.bipush 8, 2) := by decide +kernel
theorem dJ6_bitCount_0f7a4_38 : decode cJ6_bitCount_0f7a4 38 = .ok (.iushr, 1) := by decide +kernel
theorem dJ6_bitCount_0f7a4_39 : decode cJ6_bitCount_0f7a4 39 = .ok (.iadd, 1) := by decide +kernel
theorem dJ6_bitCount_0f7a4_40 : decode cJ6_bitCount_0f7a4 40 = .ok (.istore_n 0, 1) := by decide +kernel
theorem dJ6_bitCount_0f7a4_41 : decode cJ6_bitCount_0f7a4 41 = .ok (.iload_n 0, 1) := by decide +kernel
theorem dJ6_bitCount_0f7a4_42 : decode cJ6_bitCount_0f7a4 42 = .ok (.iload_n 0, 1) := by decide +kernel
theorem dJ6_bitCount_0f7a4_43 : decode cJ6_bitCount_0f7a4 43 = .ok (.bipush 16, 2) := by decide +kernel
theorem dJ6_bitCount_0f7a4_45 : decode cJ6_bitCount_0f7a4 45 = .ok (.iushr, 1) := by decide +kernel
theorem dJ6_bitCount_0f7a4_46 : decode cJ6_bitCount_0f7a4 46 = .ok (.iadd, 1) := by decide +kernel
theorem dJ6_bitCount_0f7a4_47 : decode cJ6_bitCount_0f7a4 47 = .ok (.istore_n 0, 1) := by decide +kernel
theorem dJ6_bitCount_0f7a4_48 : decode cJ6_bitCount_0f7a4 48 = .ok (.iload_n 0, 1) := by decide +kernel
theorem dJ6_bitCount_0f7a4_49 : decode cJ6_bitCount_0f7a4 49 = .ok (.bipush 63, 2) := by decide +kernel
theorem dJ6_bitCount_0f7a4_51 : decode cJ6_bitCount_0f7a4 51 = .ok (.iand, 1) := by decide +kernel
theorem dJ6_bitCount_0f7a4_52 : decode cJ6_bitCount_0f7a4 52 = .ok (.ireturn, 1) := by decide +kernel
theorem dJ9_min_7cf53_0 : decode cJ9_min_7cf53 0 = .ok (.iload_n 0, 1) := by decide +kernel
theorem dJ9_min_7cf53_1 : decode cJ9_min_7cf53 1 = .ok (.iload_n 1, 1) := by decide +kernel
theorem dJ9_min_7cf53_2 : decode cJ9_min_7cf53 2 = .ok (.if_icmp .gt 7, 3) := by decide +kernel
theorem dJ9_min_7cf53_5 : decode cJ9_min_7cf53 5 = .ok (.iload_n 0, 1) := by decide +kernel
theorem dJ9_min_7cf53_6 : decode cJ9_min_7cf53 6 = .ok (.goto 4, 3) := by decide +kernel
theorem dJ9_min_7cf53_9 : decode cJ9_min_7cf53 9 = .ok (.iload_n 1, 1) := by decide +kernel
theorem dJ9_min_7cf53_10 : decode cJ9_min_7cf53 10 = .ok (.ireturn, 1) := by decide +kernel
theorem dJ7_fill_53178_0 : decode cJ7_fill_53178 0 = .ok (.iconst 0, 1) := by decide +kernel
theorem dJ7_fill_53178_1 : decode cJ7_fill_53178 1 = .ok (.istore_n 2, 1) := by decide +kernel
theorem dJ7_fill_53178_2 : decode cJ7_fill_53178 2 = .ok (.aload_n 0, 1) := by decide +kernel
theorem dJ7_fill_53178_3 : decode cJ7_fill_53178 3 = .ok (.arraylength, 1) := by decide +kernel
theorem dJ7_fill_53178_4 : decode cJ7_fill_53178 4 = .ok (.istore_n 3, 1) := by decide +kernel
theorem dJ7_fill_53178_5 : decode cJ7_fill_53178 5 = .ok (.iload_n 2, 1) := by decide +kernel
theorem dJ7_fill_53178_6 : decode cJ7_fill_53178 6 = .ok (.iload_n 3, 1) := by decide +kernel
theorem dJ7_fill_53178_7 : decode cJ7_fill_53178 7 = .ok (.if_icmp .ge 13, 3) := by decide +kernel
theorem dJ7_fill_53178_10 : decode cJ7_fill_53178 10 = .ok (.aload_n 0, 1) := by decide +kernel
theorem dJ7_fill_53178_11 : decode cJ7_fill_53178 11 = .ok (.iload_n 2, 1) := by decide +kernel
theorem dJ7_fill_53178_12 : decode cJ7_fill_53178 12 = .ok (.iload_n 1, 1) := by decide +kernel
theorem dJ7_fill_53178_13 : decode cJ7_fill_53178 13 = .ok (.iastore, 1) := by decide +kernel
theorem dJ7_fill_53178_14 : decode cJ7_fill_53178 14 = .ok (.iinc 2 1, 3) := by decide +kernel
theorem dJ7_fill_53178_17 : decode cJ7_fill_53178 17 = .ok (.goto (-12), 3) := by decide +kernel
theorem dJ7_fill_53178_20 : decode cJ7_fill_53178 20 = .ok (.return_, 1) := by decide +kernel
