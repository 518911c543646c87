theorem dX1_victims_15 : decode cX1_victims 15 = .ok (.if_icmp .ge 36, 3) := by decide +kernel
theorem dX1_victims_18 : decode cX1_victims 18 = .ok (.iload_n 1, 1) := by decide +kernel
theorem dX1_victims_19 : decode cX1_victims 19 = .ok (.iconst (-1), 1) := by decide +kernel
theorem dX1_victims_20 : decode cX1_victims 20 = .ok (.if_icmp .eq 13, 3) := by decide +kernel
theorem dX1_victims_23 : decode cX1_victims 23 = .ok (.aload_n 0, 1) := by decide +kernel
theorem dX1_victims_24 : decode cX1_victims 24 = .ok (.getfield 15, 3) := by decide +kernel
theorem dX1_victims_27 : decode cX1_victims 27 = .ok (.iload_n 3, 1) := by decide +kernel
theorem dX1_victims_28 : decode cX1_victims 28 = .ok (.iaload, 1) := by decide +kernel
theorem dX1_victims_29 : decode cX1_victims 29 = .ok (.iload_n 1, 1) := by decide +kernel
theorem dX1_victims_30 : decode cX1_victims 30 = .ok (.if_icmp .ne 15, 3) := by decide +kernel
theorem dX1_victims_33 : decode cX1_victims 33 = .ok (.iload_n 2, 1) := by decide +kernel
theorem dX1_victims_34 : decode cX1_victims 34 = .ok (.aload_n 0, 1) := by decide +kernel
theorem dX1_victims_35 : decode cX1_victims 35 = .ok (.getfield 9, 3) := by decide +kernel
theorem dX1_victims_38 : decode cX1_victims 38 = .ok (.iload_n 3, 1) := by decide +kernel
theorem dX1_victims_39 : decode cX1_victims 39 = .ok (.iaload, 1) := by decide +kernel
theorem dX1_victims_40 : decode cX1_victims 40 = .ok (.invokestatic 35, 3) := by decide +kernel
theorem dX1_victims_43 : decode cX1_victims 43 = .ok (.ior, 1) := by decide +kernel
theorem dX1_victims_44 : decode cX1_victims 44 = .ok (.istore_n 2, 1) := by decide +kernel
theorem dX1_victims_45 : decode cX1_victims 45 = .ok (.iinc 3 1, 3) := by decide +kernel
theorem dX1_victims_48 : decode cX1_victims 48 = .ok (.goto (-44), 3) := by decide +kernel
theorem dX1_victims_51 : decode cX1_victims 51 = .ok (.iload_n 2, 1) := by decide +kernel
theorem dX1_victims_52 : decode cX1_victims 52 = .ok (.ireturn, 1) := by decide +kernel
theorem dX1_firstShare_0 : decode cX1_firstShare 0 = .ok (.iconst 0, 1) := by decide +kernel
theorem dX1_firstShare_1 : decode cX1_firstShare 1 = .ok (.istore_n 3, 1) := by decide +kernel
theorem dX1_firstShare_2 : decode cX1_firstShare 2 = .ok (.iload_n 3, 1) := by decide +kernel
theorem dX1_firstShare_3 : decode cX1_firstShare 3 = .ok (.aload_n 0, 1) := by decide +kernel
theorem dX1_firstShare_4 : decode cX1_firstShare 4 = .ok (.getfield 21, 3) := by decide +kernel
theorem dX1_firstShare_7 : decode cX1_firstShare 7 = .ok (.if_icmp .ge 47, 3) := by decide +kernel
theorem dX1_firstShare_10 : decode cX1_firstShare 10 = .ok (.iload_n 3, 1) := by decide +kernel
theorem dX1_firstShare_11 : decode cX1_firstShare 11 = .ok (.bipush 24, 2) := by decide +kernel
theorem dX1_firstShare_13 : decode cX1_firstShare 13 = .ok (.if_icmp .ge 41, 3) := by decide +kernel
theorem dX1_firstShare_16 : decode cX1_firstShare 16 = .ok (.aload_n 0, 1) := by decide +kernel
theorem dX1_firstShare_17 : decode cX1_firstShare 17 = .ok (.getfield 9, 3) := by decide +kernel
theorem dX1_firstShare_20 : decode cX1_firstShare 20 = .ok (.iload_n 3, 1) := by decide +kernel
theorem dX1_firstShare_21 : decode cX1_firstShare 21 = .ok (.iaload, 1) := by decide +kernel
theorem dX1_firstShare_22 : decode cX1_firstShare 22 = .ok (.iload_n 1, 1) := by decide +kernel
theorem dX1_firstShare_23 : decode cX1_firstShare 23 = .ok (.if_icmp .ne 25, 3) := by decide +kernel
theorem dX1_firstShare_26 : decode cX1_firstShare 26 = .ok (.iload_n 2, 1) := by decide +kernel
theorem dX1_firstShare_27 : decode cX1_firstShare 27 = .ok (.iconst (-1), 1) := by decide +kernel
theorem dX1_firstShare_28 : decode cX1_firstShare 28 = .ok (.if_icmp .eq 13, 3) := by decide +kernel
theorem dX1_firstShare_31 : decode cX1_firstShare 31 = .ok (.aload_n 0, 1) := by decide +kernel
theorem dX1_firstShare_32 : decode cX1_firstShare 32 = .ok (.getfield 15, 3) := by decide +kernel
theorem dX1_firstShare_35 : decode cX1_firstShare 35 = .ok (.iload_n 3, 1) := by decide +kernel
theorem dX1_firstShare_36 : decode cX1_firstShare 36 = .ok (.iaload, 1) := by decide +kernel
theorem dX1_firstShare_37 : decode cX1_firstShare 37 = .ok (.iload_n 2, 1) := by decide +kernel
theorem dX1_firstShare_38 : decode cX1_firstShare 38 = .ok (.if_icmp .ne 10, 3) := by decide +kernel
theorem dX1_firstShare_41 : decode cX1_firstShare 41 = .ok (.aload_n 0, 1) := by decide +kernel
theorem dX1_firstShare_42 : decode cX1_firstShare 42 = .ok (.getfield 18, 3) := by decide +kernel
theorem dX1_firstShare_45 : decode cX1_firstShare 45 = .ok (.iload_n 3, 1) := by decide +kernel
theorem dX1_firstShare_46 : decode cX1_firstShare 46 = .ok (.iaload, 1) := by decide +kernel
theorem dX1_firstShare_47 : decode cX1_firstShare 47 = .ok (.ireturn, 1) := by decide +kernel
theorem dX1_firstShare_48 : decode cX1_firstShare 48 = .ok (.iinc 3 1, 3) := by decide +kernel
theorem dX1_firstShare_51 : decode cX1_firstShare 51 = .ok (.goto (-49), 3) := by decide +kernel
theorem dX1_firstShare_54 : decode cX1_firstShare 54 = .ok (.iconst 0, 1) := by decide +kernel
theorem dX1_firstShare_55 : decode cX1_firstShare 55 = .ok (.ireturn, 1) := by decide +kernel
set_option maxRecDepth 20000 in
theorem ggX2_init_X0_init : GoodIn wsX2_init wsX0_init := goodIn_r _ [16, 17, 2, 3, 8, 18, 19, 20, 21, 22, 23, 24, 25, 26, 27, 28, 29, 30, 31, 32, 33, 34, 35, 36, 37, 38, 39, 40, 41, 42, 43, 44, 45, 46, 47, 48, 49, 50, 51, 52, 59, 60, 61, 62] (by decide +kernel) (by decide +kernel)
set_option maxRecDepth 20000 in
theorem gX2_init_X0_init : GoodIn wsX2_init (wsX0_init) := ggX2_init_X0_init
theorem dX2_init_0 : decode cX2_init 0 = .ok (.aload_n 0, 1) := by decide +kernel
theorem dX2_init_1 : decode cX2_init 1 = .ok (.invokespecial 3, 3) := by decide +kernel
theorem dX2_init_4 : decode cX2_init 4 = .ok (.aload_n 0, 1) := by decide +kernel
theorem dX2_init_5 : decode cX2_init 5 = .ok (.new 9, 3) := by decide +kernel
theorem dX2_init_8 : decode cX2_init 8 = .ok (.dup, 1) := by decide +kernel
theorem dX2_init_9 : decode cX2_init 9 = .ok (.invokespecial 11, 3) := by decide +kernel
theorem dX2_init_12 : decode cX2_init 12 = .ok (.putfield 12, 3) := by decide +kernel
theorem dX2_init_15 : decode cX2_init 15 = .ok (.aload_n 0, 1) := by decide +kernel
theorem dX2_init_16 : decode cX2_init 16 = .ok (.bipush 8, 2) := by decide +kernel
theorem dX2_init_18 : decode cX2_init 18 = .ok (.newarray .int, 2) := by decide +kernel
theorem dX2_init_20 : decode cX2_init 20 = .ok (.putfield 18, 3) := by decide +kernel
theorem dX2_init_23 : decode cX2_init 23 = .ok (.aload_n 0, 1) := by decide +kernel
theorem dX2_init_24 : decode cX2_init 24 = .ok (.bipush 40, 2) := by decide +kernel
theorem dX2_init_26 : decode cX2_init 26 = .ok (.newarray .int, 2) := by decide +kernel
theorem dX2_init_28 : decode cX2_init 28 = .ok (.putfield 22, 3) := by decide +kernel
theorem dX2_init_31 : decode cX2_init 31 = .ok (.aload_n 0, 1) := by decide +kernel
theorem dX2_init_32 : decode cX2_init 32 = .ok (.iconst 5, 1) := by decide +kernel
theorem dX2_init_33 : decode cX2_init 33 = .ok (.newarray .int, 2) := by decide +kernel
theorem dX2_init_35 : decode cX2_init 35 = .ok (.putfield 25, 3) := by decide +kernel
theorem dX2_init_38 : decode cX2_init 38 = .ok (.aload_n 0, 1) := by decide +kernel
theorem dX2_init_39 : decode cX2_init 39 = .ok (.bipush 8, 2) := by decide +kernel
theorem dX2_init_41 : decode cX2_init 41 = .ok (.newarray .int, 2) := by decide +kernel
theorem dX2_init_43 : decode cX2_init 43 = .ok (.putfield 28, 3) := by decide +kernel
theorem dX2_init_46 : decode cX2_init 46 = .ok (.aload_n 0, 1) := by decide +kernel
theorem dX2_init_47 : decode cX2_init 47 = .ok (.iconst 0, 1) := by decide +kernel
theorem dX2_init_48 : decode cX2_init 48 = .ok (.putfield 31, 3) := by decide +kernel
theorem dX2_init_51 : decode cX2_init 51 = .ok (.return_, 1) := by decide +kernel
set_option maxRecDepth 20000 in
theorem ggX2_perform_X3_letter : GoodIn wsX2_perform wsX3_letter := goodIn_r _ [6, 7, 8, 9, 5, 10, 11, 12, 223, 224] (by decide +kernel) (by decide +kernel)
set_option maxRecDepth 20000 in
theorem gX2_perform_X3_letter : GoodIn wsX2_perform (wsV RX2 41 RX3 yX3_letter wsX3_letter) := goodIn_app (goodIn_of _ (by decide +kernel)) ggX2_perform_X3_letter
set_option maxRecDepth 20000 in
theorem ggX2_perform_X0_isDealt : GoodIn wsX2_perform wsX0_isDealt := goodIn_r _ [17, 18, 211, 212, 213, 214, 215, 216, 217, 218, 219, 220, 221, 222] (by decide +kernel) (by decide +kernel)
set_option maxRecDepth 20000 in
theorem gX2_perform_X0_isDealt : GoodIn wsX2_perform (wsV RX2 47 RX0 yX0_isDealt wsX0_isDealt) := goodIn_app (goodIn_of _ (by decide +kernel)) ggX2_perform_X0_isDealt
set_option maxRecDepth 20000 in
theorem ggX2_perform_X2_isFull : GoodIn wsX2_perform wsX2_isFull := goodIn_r _ [23, 1, 24, 25, 26, 16, 27, 18, 28, 29, 30, 31, 32, 33, 205, 206, 207, 208, 209, 210, 211, 212, 213, 214, 215, 216, 217, 218, 219, 220, 221, 222, 225, 226, 227, 228] (by decide +kernel) (by decide +kernel)
set_option maxRecDepth 20000 in
theorem gX2_perform_X2_isFull : GoodIn wsX2_perform (wsV RX2 51 RX2 yX2_isFull wsX2_isFull) := goodIn_app (goodIn_of _ (by decide +kernel)) ggX2_perform_X2_isFull
set_option maxRecDepth 20000 in
theorem ggX2_perform_X3_figureAt : GoodIn wsX2_perform wsX3_figureAt := goodIn_r _ [37, 7, 8, 9, 5, 10, 11, 12, 223, 224] (by decide +kernel) (by decide +kernel)
set_option maxRecDepth 20000 in
theorem gX2_perform_X3_figureAt : GoodIn wsX2_perform (wsV RX2 55 RX3 yX3_figureAt wsX3_figureAt) := goodIn_app (goodIn_of _ (by decide +kernel)) ggX2_perform_X3_figureAt
set_option maxRecDepth 20000 in
theorem ggX2_perform_X3_members : GoodIn wsX2_perform wsX3_members := goodIn_r _ [41, 11, 42, 43, 44, 5, 45, 46, 3, 4, 6, 7, 8, 9, 10, 12, 47, 35, 36, 37, 48, 49, 50, 51, 52, 53, 54, 223, 224] (by decide +kernel) (by decide +kernel)
set_option maxRecDepth 20000 in
theorem gX2_perform_X3_members : GoodIn wsX2_perform (wsV RX2 59 RX3 yX3_members wsX3_members) := goodIn_app (goodIn_of _ (by decide +kernel)) ggX2_perform_X3_members
set_option maxRecDepth 20000 in
theorem ggX2_perform_X2_deal : GoodIn wsX2_perform wsX2_deal := goodIn_r _ [58, 1, 59, 60, 61, 62, 63, 64, 65, 66, 67, 22, 68, 69, 70, 71, 72, 73, 74, 75, 76, 77, 78, 79, 80, 81, 16, 82, 18, 83, 84, 85, 25, 26, 27, 205, 206, 207, 208, 209, 210, 211, 212, 213, 214, 215, 216, 217, 218, 219, 220, 221, 222] (by decide +kernel) (by decide +kernel)
set_option maxRecDepth 20000 in
theorem gX2_perform_X2_deal : GoodIn wsX2_perform (wsV RX2 62 RX2 yX2_deal wsX2_deal) := goodIn_app (goodIn_of _ (by decide +kernel)) ggX2_perform_X2_deal
set_option maxRecDepth 20000 in
theorem ggX2_perform_X2_fresh : GoodIn wsX2_perform wsX2_fresh := goodIn_r _ [89, 1, 90, 91, 92, 93, 53, 94, 95, 96, 97, 22, 98, 99, 100, 59, 60, 61, 62, 63, 64, 65, 101, 102, 103, 104, 105, 106, 107, 16, 108, 109, 66, 67, 68, 69, 70, 71, 72, 73, 74, 75, 76, 77, 78, 110, 111, 112, 113, 114, 115, 116, 117, 118, 52, 54, 119, 120, 121, 122, 123, 124, 125, 126, 127, 128, 129, 130, 131, 132, 79, 80, 81, 82, 18, 83, 84, 85, 25, 26, 27, 133, 134, 135, 136, 137, 138, 139, 205, 206, 207, 208, 209, 210, 211, 212, 213, 214, 215, 216, 217, 218, 219, 220, 221, 222] (by decide +kernel) (by decide +kernel)
set_option maxRecDepth 20000 in
theorem gX2_perform_X2_fresh : GoodIn wsX2_perform (wsV RX2 65 RX2 yX2_fresh wsX2_fresh) := goodIn_app (goodIn_of _ (by decide +kernel)) ggX2_perform_X2_fresh
set_option maxRecDepth 20000 in
theorem ggX2_perform_X2_openedByThose : GoodIn wsX2_perform wsX2_openedByThose := goodIn_r _ [143, 1, 144, 92, 93, 53, 94, 145, 146, 147, 22, 148, 149, 150, 151, 16, 152, 153, 154, 106, 107, 108, 109, 155, 77, 61, 78, 110, 111, 112, 113, 70, 71, 72, 63, 64, 65, 114, 115, 116, 117, 60, 62, 118, 52, 54, 133, 134, 135, 136, 137, 138, 139, 156, 157, 158, 159, 160, 161, 162, 163, 164, 165, 166, 167, 168, 169, 170, 171, 74, 75, 172, 173, 174, 175, 205, 206, 207, 208, 209, 210, 211, 212, 213, 214, 215, 216, 217, 218, 219, 220, 221, 222] (by decide +kernel) (by decide +kernel)
set_option maxRecDepth 20000 in
theorem gX2_perform_X2_openedByThose : GoodIn wsX2_perform (wsV RX2 68 RX2 yX2_openedByThose wsX2_openedByThose) := goodIn_app (goodIn_of _ (by decide +kernel)) ggX2_perform_X2_openedByThose
set_option maxRecDepth 20000 in
theorem ggX2_perform_X2_lose : GoodIn wsX2_perform wsX2_lose := goodIn_r _ [179, 1, 118, 52, 53, 54, 133, 134, 135, 136, 137, 138, 139, 205, 206, 207, 208, 209, 210, 211, 212, 213, 214, 215, 216, 217, 218, 219, 220, 221, 222] (by decide +kernel) (by decide +kernel)
set_option maxRecDepth 20000 in
theorem gX2_perform_X2_lose : GoodIn wsX2_perform (wsV RX2 72 RX2 yX2_lose wsX2_lose) := goodIn_app (goodIn_of _ (by decide +kernel)) ggX2_perform_X2_lose
set_option maxRecDepth 20000 in
theorem ggX2_perform_X2_rebuild : GoodIn wsX2_perform wsX2_rebuild := goodIn_r _ [183, 1, 48, 49, 50, 92, 93, 53, 94, 140, 141, 142, 22, 143, 144, 145, 146, 147, 148, 149, 150, 151, 16, 152, 153, 154, 106, 107, 108, 109, 155, 77, 61, 78, 110, 111, 112, 113, 70, 71, 72, 63, 64, 65, 114, 115, 116, 117, 60, 62, 118, 52, 54, 133, 134, 135, 136, 137, 138, 139, 156, 157, 158, 159, 160, 161, 162, 163, 164, 165, 166, 167, 168, 169, 170, 171, 74, 75, 172, 173, 174, 175, 205, 206, 207, 208, 209, 210, 211, 212, 213, 214, 215, 216, 217, 218, 219, 220, 221, 222] (by decide +kernel) (by decide +kernel)
set_option maxRecDepth 20000 in
theorem gX2_perform_X2_rebuild : GoodIn wsX2_perform (wsV RX2 75 RX2 yX2_rebuild wsX2_rebuild) := goodIn_app (goodIn_of _ (by decide +kernel)) ggX2_perform_X2_rebuild
set_option maxRecDepth 20000 in
theorem ggX2_perform_X2_move : GoodIn wsX2_perform wsX2_move := goodIn_r _ [187, 1, 90, 144, 91, 133, 134, 135, 136, 137, 138, 139, 92, 93, 53, 94, 145, 146, 147, 22, 148, 149, 150, 151, 16, 152, 153, 154, 106, 107, 108, 109, 155, 77, 61, 78, 110, 111, 112, 113, 70, 71, 72, 63, 64, 65, 114, 115, 116, 117, 60, 62, 118, 52, 54, 95, 96, 97, 98, 99, 100, 59, 101, 102, 103, 104, 105, 66, 67, 68, 69, 73, 74, 75, 76, 188, 166, 167, 164, 168, 169, 170, 171, 172, 173, 174, 189, 190, 191, 192, 119, 120, 121, 122, 123, 124, 125, 126, 127, 128, 129, 130, 131, 132, 79, 80, 81, 82, 18, 83, 84, 85, 25, 26, 27, 205, 206, 207, 208, 209, 210, 211, 212, 213, 214, 215, 216, 217, 218, 219, 220, 221, 222] (by decide +kernel) (by decide +kernel)
set_option maxRecDepth 20000 in
theorem gX2_perform_X2_move : GoodIn wsX2_perform (wsV RX2 78 RX2 yX2_move wsX2_move) := goodIn_app (goodIn_of _ (by decide +kernel)) ggX2_perform_X2_move
set_option maxRecDepth 20000 in
theorem ggX2_perform_X2_steal : GoodIn wsX2_perform wsX2_steal := goodIn_r _ [196, 1, 48, 49, 50, 92, 93, 53, 94, 197, 198, 199, 31, 200, 201, 33, 202, 203, 204, 29, 30, 32, 205, 206, 207, 208, 209, 210, 211, 212, 213, 214, 215, 216, 217, 218, 219, 220, 221, 222, 225, 226, 227, 228] (by decide +kernel) (by decide +kernel)
set_option maxRecDepth 20000 in
theorem gX2_perform_X2_steal : GoodIn wsX2_perform (wsV RX2 81 RX2 yX2_steal wsX2_steal) := goodIn_app (goodIn_of _ (by decide +kernel)) ggX2_perform_X2_steal
theorem dX2_perform_0 : decode cX2_perform 0 = .ok (.aload_n 0, 1) := by decide +kernel
theorem dX2_perform_1 : decode cX2_perform 1 = .ok (.getfield 12, 3) := by decide +kernel
theorem dX2_perform_4 : decode cX2_perform 4 = .ok (.iconst 0, 1) := by decide +kernel
theorem dX2_perform_5 : decode cX2_perform 5 = .ok (.putfield 35, 3) := by decide +kernel
theorem dX2_perform_8 : decode cX2_perform 8 = .ok (.aload_n 0, 1) := by decide +kernel
theorem dX2_perform_9 : decode cX2_perform 9 = .ok (.getfield 12, 3) := by decide +kernel
theorem dX2_perform_12 : decode cX2_perform 12 = .ok (.iconst 0, 1) := by decide +kernel
theorem dX2_perform_13 : decode cX2_perform 13 = .ok (.putfield 38, 3) := by decide +kernel
theorem dX2_perform_16 : decode cX2_perform 16 = .ok (.aload_n 1, 1) := by decide +kernel
theorem dX2_perform_17 : decode cX2_perform 17 = .ok (.invokevirtual 41, 3) := by decide +kernel
theorem dX2_perform_20 : decode cX2_perform 20 = .ok (.istore_n 2, 1) := by decide +kernel
theorem dX2_perform_21 : decode cX2_perform 21 = .ok (.iload_n 2, 1) := by decide +kernel
theorem dX2_perform_22 : decode cX2_perform 22 = .ok (.bipush 100, 2) := by decide +kernel
theorem dX2_perform_24 : decode cX2_perform 24 = .ok (.if_icmp .eq 16, 3) := by decide +kernel
theorem dX2_perform_27 : decode cX2_perform 27 = .ok (.aload_n 0, 1) := by decide +kernel
theorem dX2_perform_28 : decode cX2_perform 28 = .ok (.getfield 12, 3) := by decide +kernel
theorem dX2_perform_31 : decode cX2_perform 31 = .ok (.invokevirtual 47, 3) := by decide +kernel
theorem dX2_perform_34 : decode cX2_perform 34 = .ok (.ifCond .ne 6, 3) := by decide +kernel
theorem dX2_perform_37 : decode cX2_perform 37 = .ok (.bipush (-3), 2) := by decide +kernel
theorem dX2_perform_39 : decode cX2_perform 39 = .ok (.ireturn, 1) := by decide +kernel
theorem dX2_perform_40 : decode cX2_perform 40 = .ok (.aload_n 0, 1) := by decide +kernel
theorem dX2_perform_41 : decode cX2_perform 41 = .ok (.iload_n 2, 1) := by decide +kernel
theorem dX2_perform_42 : decode cX2_perform 42 = .ok (.invokevirtual 51, 3) := by decide +kernel
theorem dX2_perform_45 : decode cX2_perform 45 = .ok (.ifCond .eq 6, 3) := by decide +kernel
theorem dX2_perform_48 : decode cX2_perform 48 = .ok (.bipush (-4), 2) := by decide +kernel
theorem dX2_perform_50 : decode cX2_perform 50 = .ok (.ireturn, 1) := by decide +kernel
theorem dX2_perform_51 : decode cX2_perform 51 = .ok (.aload_n 1, 1) := by decide +kernel
theorem dX2_perform_52 : decode cX2_perform 52 = .ok (.iconst 1, 1) := by decide +kernel
theorem dX2_perform_53 : decode cX2_perform 53 = .ok (.invokevirtual 55, 3) := by decide +kernel
theorem dX2_perform_56 : decode cX2_perform 56 = .ok (.istore_n 3, 1) := by decide +kernel
theorem dX2_perform_57 : decode cX2_perform 57 = .ok (.aload_n 1, 1) := by decide +kernel
theorem dX2_perform_58 : decode cX2_perform 58 = .ok (.invokevirtual 59, 3) := by decide +kernel
theorem dX2_perform_61 : decode cX2_perform 61 = .ok (.istore 4, 2) := by decide +kernel
theorem dX2_perform_63 : decode cX2_perform 63 = .ok (.iload_n 2, 1) := by decide +kernel
theorem dX2_perform_64 : decode cX2_perform 64 = .ok (.tableswitch 151 98 119 #[129, 151, 104, 151, 110, 151, 151, 151, 151, 151, 151, 151, 151, 115, 151, 151, 151, 145, 137, 151, 151, 123], 104) := by decide +kernel
theorem dX2_perform_168 : decode cX2_perform 168 = .ok (.aload_n 0, 1) := by decide +kernel
theorem dX2_perform_169 : decode cX2_perform 169 = .ok (.iload_n 3, 1) := by decide +kernel
theorem dX2_perform_170 : decode cX2_perform 170 = .ok (.invokevirtual 62, 3) := by decide +kernel
theorem dX2_perform_173 : decode cX2_perform 173 = .ok (.ireturn, 1) := by decide +kernel
theorem dX2_perform_174 : decode cX2_perform 174 = .ok (.aload_n 0, 1) := by decide +kernel
theorem dX2_perform_175 : decode cX2_perform 175 = .ok (.invokevirtual 65, 3) := by decide +kernel
theorem dX2_perform_178 : decode cX2_perform 178 = .ok (.ireturn, 1) := by decide +kernel
theorem dX2_perform_179 : decode cX2_perform 179 = .ok (.aload_n 0, 1) := by decide +kernel
theorem dX2_perform_180 : decode cX2_perform 180 = .ok (.iload 4, 2) := by decide +kernel
theorem dX2_perform_182 : decode cX2_perform 182 = .ok (.iconst 0, 1) := by decide +kernel
theorem dX2_perform_183 : decode cX2_perform 183 = .ok (.invokevirtual 68, 3) := by decide +kernel
theorem dX2_perform_186 : decode cX2_perform 186 = .ok (.ireturn, 1) := by decide +kernel
theorem dX2_perform_187 : decode cX2_perform 187 = .ok (.aload_n 0, 1) := by decide +kernel
theorem dX2_perform_188 : decode cX2_perform 188 = .ok (.iload_n 3, 1) := by decide +kernel
theorem dX2_perform_189 : decode cX2_perform 189 = .ok (.invokevirtual 72, 3) := by decide +kernel
theorem dX2_perform_192 : decode cX2_perform 192 = .ok (.ireturn, 1) := by decide +kernel
theorem dX2_perform_193 : decode cX2_perform 193 = .ok (.aload_n 0, 1) := by decide +kernel
theorem dX2_perform_194 : decode cX2_perform 194 = .ok (.iload_n 3, 1) := by decide +kernel
theorem dX2_perform_195 : decode cX2_perform 195 = .ok (.iload 4, 2) := by decide +kernel
theorem dX2_perform_197 : decode cX2_perform 197 = .ok (.invokevirtual 75, 3) := by decide +kernel
theorem dX2_perform_200 : decode cX2_perform 200 = .ok (.ireturn, 1) := by decide +kernel
theorem dX2_perform_201 : decode cX2_perform 201 = .ok (.aload_n 0, 1) := by decide +kernel
theorem dX2_perform_202 : decode cX2_perform 202 = .ok (.iload_n 3, 1) := by decide +kernel
theorem dX2_perform_203 : decode cX2_perform 203 = .ok (.iload 4, 2) := by decide +kernel
theorem dX2_perform_205 : decode cX2_perform 205 = .ok (.invokevirtual 78, 3) := by decide +kernel
theorem dX2_perform_208 : decode cX2_perform 208 = .ok (.ireturn, 1) := by decide +kernel
theorem dX2_perform_209 : decode cX2_perform 209 = .ok (.aload_n 0, 1) := by decide +kernel
theorem dX2_perform_210 : decode cX2_perform 210 = .ok (.iload_n 3, 1) := by decide +kernel
theorem dX2_perform_211 : decode cX2_perform 211 = .ok (.invokevirtual 81, 3) := by decide +kernel
theorem dX2_perform_214 : decode cX2_perform 214 = .ok (.ireturn, 1) := by decide +kernel
theorem dX2_perform_215 : decode cX2_perform 215 = .ok (.bipush (-7), 2) := by decide +kernel
theorem dX2_perform_217 : decode cX2_perform 217 = .ok (.ireturn, 1) := by decide +kernel
set_option maxRecDepth 20000 in
theorem ggX2_isFull_X0_isLastEpoch : GoodIn wsX2_isFull wsX0_isLastEpoch := goodIn_r _ [6, 7, 20, 21, 22, 23, 24, 25, 26, 27, 28, 29, 30, 31] (by decide +kernel) (by decide +kernel)
set_option maxRecDepth 20000 in
theorem gX2_isFull_X0_isLastEpoch : GoodIn wsX2_isFull (wsV RX2 84 RX0 yX0_isLastEpoch wsX0_isLastEpoch) := goodIn_app (goodIn_of _ (by decide +kernel)) ggX2_isFull_X0_isLastEpoch
set_option maxRecDepth 20000 in
theorem ggX2_isFull_X1_isFull : GoodIn wsX2_isFull wsX1_isFull := goodIn_r _ [12, 13, 32, 33, 34, 35] (by decide +kernel) (by decide +kernel)
set_option maxRecDepth 20000 in
theorem gX2_isFull_X1_isFull : GoodIn wsX2_isFull (wsV RX2 91 RX1 yX1_isFull wsX1_isFull) := goodIn_app (goodIn_of _ (by decide +kernel)) ggX2_isFull_X1_isFull
theorem dX2_isFull_0 : decode cX2_isFull 0 = .ok (.iload_n 1, 1) := by decide +kernel
theorem dX2_isFull_1 : decode cX2_isFull 1 = .ok (.lookupswitch 62 #[(100, 43), (102, 43), (115, 51), (116, 43)], 43) := by decide +kernel
theorem dX2_isFull_44 : decode cX2_isFull 44 = .ok (.aload_n 0, 1) := by decide +kernel
theorem dX2_isFull_45 : decode cX2_isFull 45 = .ok (.getfield 12, 3) := by decide +kernel
theorem dX2_isFull_48 : decode cX2_isFull 48 = .ok (.invokevirtual 84, 3) := by decide +kernel
theorem dX2_isFull_51 : decode cX2_isFull 51 = .ok (.ireturn, 1) := by decide +kernel
theorem dX2_isFull_52 : decode cX2_isFull 52 = .ok (.aload_n 0, 1) := by decide +kernel
theorem dX2_isFull_53 : decode cX2_isFull 53 = .ok (.getfield 12, 3) := by decide +kernel
theorem dX2_isFull_56 : decode cX2_isFull 56 = .ok (.getfield 87, 3) := by decide +kernel
theorem dX2_isFull_59 : decode cX2_isFull 59 = .ok (.invokevirtual 91, 3) := by decide +kernel
theorem dX2_isFull_62 : decode cX2_isFull 62 = .ok (.ireturn, 1) := by decide +kernel
theorem dX2_isFull_63 : decode cX2_isFull 63 = .ok (.iconst 0, 1) := by decide +kernel
theorem dX2_isFull_64 : decode cX2_isFull 64 = .ok (.ireturn, 1) := by decide +kernel
set_option maxRecDepth 20000 in
theorem ggX2_deal_X5_sealOf : GoodIn wsX2_deal wsX5_sealOf := goodIn_r _ [5, 6, 7, 4, 8] (by decide +kernel) (by decide +kernel)
set_option maxRecDepth 20000 in
theorem gX2_deal_X5_sealOf : GoodIn wsX2_deal (va_wsS RX2 101 yX5_sealOf wsX5_sealOf) := goodIn_app (goodIn_of _ (by decide +kernel)) ggX2_deal_X5_sealOf
set_option maxRecDepth 20000 in
theorem ggX2_deal_X2_polynomialAt : GoodIn wsX2_deal wsX2_polynomialAt := goodIn_r _ [12, 13, 14, 15, 16, 17, 18, 4, 19, 20, 21, 22] (by decide +kernel) (by decide +kernel)
set_option maxRecDepth 20000 in
theorem gX2_deal_X2_polynomialAt : GoodIn wsX2_deal (va_wsS RX2 109 yX2_polynomialAt wsX2_polynomialAt) := goodIn_app (goodIn_of _ (by decide +kernel)) ggX2_deal_X2_polynomialAt
set_option maxRecDepth 20000 in
theorem ggX2_deal_X0_beginEpoch : GoodIn wsX2_deal wsX0_beginEpoch := goodIn_r _ [27, 28, 29, 30, 31, 32, 33, 26, 34, 41, 42, 43, 44, 45, 46, 47, 48, 49, 50, 51, 52] (by decide +kernel) (by decide +kernel)
set_option maxRecDepth 20000 in
theorem gX2_deal_X0_beginEpoch : GoodIn wsX2_deal (wsV RX2 116 RX0 yX0_beginEpoch wsX0_beginEpoch) := goodIn_app (goodIn_of _ (by decide +kernel)) ggX2_deal_X0_beginEpoch
theorem dX2_deal_0 : decode cX2_deal 0 = .ok (.iconst 0, 1) := by decide +kernel
theorem dX2_deal_1 : decode cX2_deal 1 = .ok (.istore_n 2, 1) := by decide +kernel
theorem dX2_deal_2 : decode cX2_deal 2 = .ok (.iload_n 2, 1) := by decide +kernel
theorem dX2_deal_3 : decode cX2_deal 3 = .ok (.iload_n 1, 1) := by decide +kernel
theorem dX2_deal_4 : decode cX2_deal 4 = .ok (.if_icmp .ge 37, 3) := by decide +kernel
theorem dX2_deal_7 : decode cX2_deal 7 = .ok (.iload_n 2, 1) := by decide +kernel
theorem dX2_deal_8 : decode cX2_deal 8 = .ok (.iconst 5, 1) := by decide +kernel
theorem dX2_deal_9 : decode cX2_deal 9 = .ok (.if_icmp .ge 32, 3) := by decide +kernel
theorem dX2_deal_12 : decode cX2_deal 12 = .ok (.aload_n 0, 1) := by decide +kernel
theorem dX2_deal_13 : decode cX2_deal 13 = .ok (.getfield 12, 3) := by decide +kernel
theorem dX2_deal_16 : decode cX2_deal 16 = .ok (.getfield 95, 3) := by decide +kernel
theorem dX2_deal_19 : decode cX2_deal 19 = .ok (.iload_n 2, 1) := by decide +kernel
theorem dX2_deal_20 : decode cX2_deal 20 = .ok (.aload_n 0, 1) := by decide +kernel
theorem dX2_deal_21 : decode cX2_deal 21 = .ok (.getfield 12, 3) := by decide +kernel
theorem dX2_deal_24 : decode cX2_deal 24 = .ok (.getfield 98, 3) := by decide +kernel
theorem dX2_deal_27 : decode cX2_deal 27 = .ok (.iconst 0, 1) := by decide +kernel
theorem dX2_deal_28 : decode cX2_deal 28 = .ok (.iload_n 2, 1) := by decide +kernel
theorem dX2_deal_29 : decode cX2_deal 29 = .ok (.iadd, 1) := by decide +kernel
theorem dX2_deal_30 : decode cX2_deal 30 = .ok (.iaload, 1) := by decide +kernel
theorem dX2_deal_31 : decode cX2_deal 31 = .ok (.invokestatic 101, 3) := by decide +kernel
theorem dX2_deal_34 : decode cX2_deal 34 = .ok (.iastore, 1) := by decide +kernel
theorem dX2_deal_35 : decode cX2_deal 35 = .ok (.iinc 2 1, 3) := by decide +kernel
theorem dX2_deal_38 : decode cX2_deal 38 = .ok (.goto (-36), 3) := by decide +kernel
theorem dX2_deal_41 : decode cX2_deal 41 = .ok (.iconst 1, 1) := by decide +kernel
theorem dX2_deal_42 : decode cX2_deal 42 = .ok (.istore_n 2, 1) := by decide +kernel
theorem dX2_deal_43 : decode cX2_deal 43 = .ok (.iload_n 2, 1) := by decide +kernel
theorem dX2_deal_44 : decode cX2_deal 44 = .ok (.bipush 7, 2) := by decide +kernel
theorem dX2_deal_46 : decode cX2_deal 46 = .ok (.if_icmp .gt 31, 3) := by decide +kernel
theorem dX2_deal_49 : decode cX2_deal 49 = .ok (.aload_n 0, 1) := by decide +kernel
theorem dX2_deal_50 : decode cX2_deal 50 = .ok (.getfield 12, 3) := by decide +kernel
theorem dX2_deal_53 : decode cX2_deal 53 = .ok (.getfield 106, 3) := by decide +kernel
theorem dX2_deal_56 : decode cX2_deal 56 = .ok (.iload_n 2, 1) := by decide +kernel
theorem dX2_deal_57 : decode cX2_deal 57 = .ok (.aload_n 0, 1) := by decide +kernel
theorem dX2_deal_58 : decode cX2_deal 58 = .ok (.getfield 12, 3) := by decide +kernel
theorem dX2_deal_61 : decode cX2_deal 61 = .ok (.getfield 98, 3) := by decide +kernel
theorem dX2_deal_64 : decode cX2_deal 64 = .ok (.iconst 0, 1) := by decide +kernel
theorem dX2_deal_65 : decode cX2_deal 65 = .ok (.iload_n 1, 1) := by decide +kernel
theorem dX2_deal_66 : decode cX2_deal 66 = .ok (.iload_n 2, 1) := by decide +kernel
theorem dX2_deal_67 : decode cX2_deal 67 = .ok (.invokestatic 109, 3) := by decide +kernel
theorem dX2_deal_70 : decode cX2_deal 70 = .ok (.iastore, 1) := by decide +kernel
theorem dX2_deal_71 : decode cX2_deal 71 = .ok (.iinc 2 1, 3) := by decide +kernel
theorem dX2_deal_74 : decode cX2_deal 74 = .ok (.goto (-31), 3) := by decide +kernel
theorem dX2_deal_77 : decode cX2_deal 77 = .ok (.aload_n 0, 1) := by decide +kernel
theorem dX2_deal_78 : decode cX2_deal 78 = .ok (.getfield 12, 3) := by decide +kernel
theorem dX2_deal_81 : decode cX2_deal 81 = .ok (.sipush 254, 3) := by decide +kernel
theorem dX2_deal_84 : decode cX2_deal 84 = .ok (.putfield 113, 3) := by decide +kernel
theorem dX2_deal_87 : decode cX2_deal 87 = .ok (.aload_n 0, 1) := by decide +kernel
theorem dX2_deal_88 : decode cX2_deal 88 = .ok (.getfield 12, 3) := by decide +kernel
theorem dX2_deal_91 : decode cX2_deal 91 = .ok (.iload_n 1, 1) := by decide +kernel
theorem dX2_deal_92 : decode cX2_deal 92 = .ok (.invokevirtual 116, 3) := by decide +kernel
theorem dX2_deal_95 : decode cX2_deal 95 = .ok (.iconst 1, 1) := by decide +kernel
theorem dX2_deal_96 : decode cX2_deal 96 = .ok (.ireturn, 1) := by decide +kernel
set_option maxRecDepth 20000 in
theorem ggX2_lose_X4_only : GoodIn wsX2_lose wsX4_only := goodIn_r _ [5] (by decide +kernel) (by decide +kernel)
set_option maxRecDepth 20000 in
theorem gX2_lose_X4_only : GoodIn wsX2_lose (va_wsS RX2 120 yX4_only wsX4_only) := goodIn_app (goodIn_of _ (by decide +kernel)) ggX2_lose_X4_only
set_option maxRecDepth 20000 in
theorem ggX2_lose_J6_bitCount_0f7a4 : GoodIn wsX2_lose wsJ6_bitCount_0f7a4 := goodIn_r _ [9, 10, 11, 12] (by decide +kernel) (by decide +kernel)
set_option maxRecDepth 20000 in
theorem gX2_lose_J6_bitCount_0f7a4 : GoodIn wsX2_lose (va_wsS RX2 125 yJ6_bitCount_0f7a4 wsJ6_bitCount_0f7a4) := goodIn_app (goodIn_of _ (by decide +kernel)) ggX2_lose_J6_bitCount_0f7a4
theorem dX2_lose_0 : decode cX2_lose 0 = .ok (.aload_n 0, 1) := by decide +kernel
theorem dX2_lose_1 : decode cX2_lose 1 = .ok (.getfield 12, 3) := by decide +kernel
theorem dX2_lose_4 : decode cX2_lose 4 = .ok (.dup, 1) := by decide +kernel
theorem dX2_lose_5 : decode cX2_lose 5 = .ok (.getfield 113, 3) := by decide +kernel
theorem dX2_lose_8 : decode cX2_lose 8 = .ok (.iload_n 1, 1) := by decide +kernel
theorem dX2_lose_9 : decode cX2_lose 9 = .ok (.invokestatic 120, 3) := by decide +kernel
theorem dX2_lose_12 : decode cX2_lose 12 = .ok (.iconst (-1), 1) := by decide +kernel
theorem dX2_lose_13 : decode cX2_lose 13 = .ok (.ixor, 1) := by decide +kernel
theorem dX2_lose_14 : decode cX2_lose 14 = .ok (.iand, 1) := by decide +kernel
theorem dX2_lose_15 : decode cX2_lose 15 = .ok (.putfield 113, 3) := by decide +kernel
theorem dX2_lose_18 : decode cX2_lose 18 = .ok (.aload_n 0, 1) := by decide +kernel
theorem dX2_lose_19 : decode cX2_lose 19 = .ok (.getfield 12, 3) := by decide +kernel
theorem dX2_lose_22 : decode cX2_lose 22 = .ok (.getfield 113, 3) := by decide +kernel
theorem dX2_lose_25 : decode cX2_lose 25 = .ok (.invokestatic 125, 3) := by decide +kernel
theorem dX2_lose_28 : decode cX2_lose 28 = .ok (.ireturn, 1) := by decide +kernel
set_option maxRecDepth 20000 in
theorem ggX2_openedByThose_X4_has : GoodIn wsX2_openedByThose wsX4_has := goodIn_r _ [6] (by decide +kernel) (by decide +kernel)
set_option maxRecDepth 20000 in
theorem gX2_openedByThose_X4_has : GoodIn wsX2_openedByThose (va_wsS RX2 130 yX4_has wsX4_has) := goodIn_app (goodIn_of _ (by decide +kernel)) ggX2_openedByThose_X4_has
set_option maxRecDepth 20000 in
theorem ggX2_openedByThose_X2_hear : GoodIn wsX2_openedByThose wsX2_hear := goodIn_r _ [11, 2, 1, 12, 13, 14, 15, 16, 17, 18, 19, 20, 21, 22, 23, 24, 25, 26, 27, 28, 29, 30, 31, 32, 33, 34, 35, 36, 37, 38, 39, 40, 41, 42, 43, 44, 5, 45, 75, 76, 77, 78, 79, 80, 81, 82, 83, 84, 85, 86, 87, 88, 89, 90, 91, 92] (by decide +kernel) (by decide +kernel)
set_option maxRecDepth 20000 in
theorem gX2_openedByThose_X2_hear : GoodIn wsX2_openedByThose (wsV RX2 134 RX2 yX2_hear wsX2_hear) := goodIn_app (goodIn_of _ (by decide +kernel)) ggX2_openedByThose_X2_hear
set_option maxRecDepth 20000 in
theorem ggX2_openedByThose_J6_bitCount_0f7a4 : GoodIn wsX2_openedByThose wsJ6_bitCount_0f7a4 := goodIn_r _ [49, 50, 51, 52] (by decide +kernel) (by decide +kernel)
set_option maxRecDepth 20000 in
theorem gX2_openedByThose_J6_bitCount_0f7a4 : GoodIn wsX2_openedByThose (va_wsS RX2 125 yJ6_bitCount_0f7a4 wsJ6_bitCount_0f7a4) := goodIn_app (goodIn_of _ (by decide +kernel)) ggX2_openedByThose_J6_bitCount_0f7a4
set_option maxRecDepth 20000 in
theorem ggX2_openedByThose_X4_lowest : GoodIn wsX2_openedByThose wsX4_lowest := goodIn_r _ [55, 56, 4, 5, 6, 57, 44, 45] (by decide +kernel) (by decide +kernel)
set_option maxRecDepth 20000 in
theorem gX2_openedByThose_X4_lowest : GoodIn wsX2_openedByThose (va_wsS RX2 140 yX4_lowest wsX4_lowest) := goodIn_app (goodIn_of _ (by decide +kernel)) ggX2_openedByThose_X4_lowest
set_option maxRecDepth 20000 in
theorem ggX2_openedByThose_X5_weighed : GoodIn wsX2_openedByThose wsX5_weighed := goodIn_r _ [60, 61, 4, 5, 6, 62, 63, 25, 64, 65, 66, 67, 68, 69, 70, 71, 72, 73, 74, 24, 26] (by decide +kernel) (by decide +kernel)
set_option maxRecDepth 20000 in
theorem gX2_openedByThose_X5_weighed : GoodIn wsX2_openedByThose (va_wsS RX2 143 yX5_weighed wsX5_weighed) := goodIn_app (goodIn_of _ (by decide +kernel)) ggX2_openedByThose_X5_weighed
theorem dX2_openedByThose_0 : decode cX2_openedByThose 0 = .ok (.iload_n 1, 1) := by decide +kernel
theorem dX2_openedByThose_1 : decode cX2_openedByThose 1 = .ok (.aload_n 0, 1) := by decide +kernel
theorem dX2_openedByThose_2 : decode cX2_openedByThose 2 = .ok (.getfield 12, 3) := by decide +kernel
theorem dX2_openedByThose_5 : decode cX2_openedByThose 5 = .ok (.getfield 113, 3) := by decide +kernel
theorem dX2_openedByThose_8 : decode cX2_openedByThose 8 = .ok (.iand, 1) := by decide +kernel
theorem dX2_openedByThose_9 : decode cX2_openedByThose 9 = .ok (.istore_n 3, 1) := by decide +kernel
theorem dX2_openedByThose_10 : decode cX2_openedByThose 10 = .ok (.iconst 1, 1) := by decide +kernel
theorem dX2_openedByThose_11 : decode cX2_openedByThose 11 = .ok (.istore 4, 2) := by decide +kernel
theorem dX2_openedByThose_13 : decode cX2_openedByThose 13 = .ok (.iload 4, 2) := by decide +kernel
theorem dX2_openedByThose_15 : decode cX2_openedByThose 15 = .ok (.bipush 7, 2) := by decide +kernel
theorem dX2_openedByThose_17 : decode cX2_openedByThose 17 = .ok (.if_icmp .gt 25, 3) := by decide +kernel
theorem dX2_openedByThose_20 : decode cX2_openedByThose 20 = .ok (.iload_n 3, 1) := by decide +kernel
theorem dX2_openedByThose_21 : decode cX2_openedByThose 21 = .ok (.iload 4, 2) := by decide +kernel
theorem dX2_openedByThose_23 : decode cX2_openedByThose 23 = .ok (.invokestatic 130, 3) := by decide +kernel
theorem dX2_openedByThose_26 : decode cX2_openedByThose 26 = .ok (.ifCond .eq 10, 3) := by decide +kernel
theorem dX2_openedByThose_29 : decode cX2_openedByThose 29 = .ok (.aload_n 0, 1) := by decide +kernel
theorem dX2_openedByThose_30 : decode cX2_openedByThose 30 = .ok (.iload 4, 2) := by decide +kernel
theorem dX2_openedByThose_32 : decode cX2_openedByThose 32 = .ok (.invokevirtual 134, 3) := by decide +kernel
theorem dX2_openedByThose_35 : decode cX2_openedByThose 35 = .ok (.pop, 1) := by decide +kernel
theorem dX2_openedByThose_36 : decode cX2_openedByThose 36 = .ok (.iinc 4 1, 3) := by decide +kernel
theorem dX2_openedByThose_39 : decode cX2_openedByThose 39 = .ok (.goto (-26), 3) := by decide +kernel
theorem dX2_openedByThose_42 : decode cX2_openedByThose 42 = .ok (.iload_n 3, 1) := by decide +kernel
theorem dX2_openedByThose_43 : decode cX2_openedByThose 43 = .ok (.aload_n 0, 1) := by decide +kernel
theorem dX2_openedByThose_44 : decode cX2_openedByThose 44 = .ok (.getfield 12, 3) := by decide +kernel
theorem dX2_openedByThose_47 : decode cX2_openedByThose 47 = .ok (.getfield 35, 3) := by decide +kernel
theorem dX2_openedByThose_50 : decode cX2_openedByThose 50 = .ok (.iconst (-1), 1) := by decide +kernel
theorem dX2_openedByThose_51 : decode cX2_openedByThose 51 = .ok (.ixor, 1) := by decide +kernel
theorem dX2_openedByThose_52 : decode cX2_openedByThose 52 = .ok (.iand, 1) := by decide +kernel
theorem dX2_openedByThose_53 : decode cX2_openedByThose 53 = .ok (.istore 4, 2) := by decide +kernel
theorem dX2_openedByThose_55 : decode cX2_openedByThose 55 = .ok (.iload 4, 2) := by decide +kernel
theorem dX2_openedByThose_57 : decode cX2_openedByThose 57 = .ok (.invokestatic 125, 3) := by decide +kernel
theorem dX2_openedByThose_60 : decode cX2_openedByThose 60 = .ok (.aload_n 0, 1) := by decide +kernel
theorem dX2_openedByThose_61 : decode cX2_openedByThose 61 = .ok (.getfield 12, 3) := by decide +kernel
theorem dX2_openedByThose_64 : decode cX2_openedByThose 64 = .ok (.getfield 137, 3) := by decide +kernel
theorem dX2_openedByThose_67 : decode cX2_openedByThose 67 = .ok (.if_icmp .ge 6, 3) := by decide +kernel
theorem dX2_openedByThose_70 : decode cX2_openedByThose 70 = .ok (.bipush (-5), 2) := by decide +kernel
theorem dX2_openedByThose_72 : decode cX2_openedByThose 72 = .ok (.ireturn, 1) := by decide +kernel
theorem dX2_openedByThose_73 : decode cX2_openedByThose 73 = .ok (.aload_n 0, 1) := by decide +kernel
theorem dX2_openedByThose_74 : decode cX2_openedByThose 74 = .ok (.getfield 18, 3) := by decide +kernel
theorem dX2_openedByThose_77 : decode cX2_openedByThose 77 = .ok (.iload 4, 2) := by decide +kernel
theorem dX2_openedByThose_79 : decode cX2_openedByThose 79 = .ok (.aload_n 0, 1) := by decide +kernel
theorem dX2_openedByThose_80 : decode cX2_openedByThose 80 = .ok (.getfield 12, 3) := by decide +kernel
theorem dX2_openedByThose_83 : decode cX2_openedByThose 83 = .ok (.getfield 137, 3) := by decide +kernel
theorem dX2_openedByThose_86 : decode cX2_openedByThose 86 = .ok (.invokestatic 140, 3) := by decide +kernel
theorem dX2_openedByThose_89 : decode cX2_openedByThose 89 = .ok (.iload_n 2, 1) := by decide +kernel
theorem dX2_openedByThose_90 : decode cX2_openedByThose 90 = .ok (.invokestatic 143, 3) := by decide +kernel
theorem dX2_openedByThose_93 : decode cX2_openedByThose 93 = .ok (.ireturn, 1) := by decide +kernel
set_option maxRecDepth 20000 in
theorem ggX2_hear_X0_tells : GoodIn wsX2_hear wsX0_tells := goodIn_r _ [7, 8, 9, 10, 11, 6, 12, 13, 14, 15, 16, 17, 44, 45, 46, 47, 48, 49, 50, 51, 52, 53, 54, 55] (by decide +kernel) (by decide +kernel)
set_option maxRecDepth 20000 in
theorem gX2_hear_X0_tells : GoodIn wsX2_hear (wsV RX2 147 RX0 yX0_tells wsX0_tells) := goodIn_app (goodIn_of _ (by decide +kernel)) ggX2_hear_X0_tells
set_option maxRecDepth 20000 in
theorem ggX2_hear_X5_fitting : GoodIn wsX2_hear wsX5_fitting := goodIn_r _ [20, 21, 22, 23, 24, 25, 26, 16, 27, 28, 29, 30, 31, 32, 33] (by decide +kernel) (by decide +kernel)
set_option maxRecDepth 20000 in
theorem gX2_hear_X5_fitting : GoodIn wsX2_hear (va_wsS RX2 150 yX5_fitting wsX5_fitting) := goodIn_app (goodIn_of _ (by decide +kernel)) ggX2_hear_X5_fitting
set_option maxRecDepth 20000 in
theorem ggX2_hear_X4_only : GoodIn wsX2_hear wsX4_only := goodIn_r _ [37] (by decide +kernel) (by decide +kernel)
set_option maxRecDepth 20000 in
theorem gX2_hear_X4_only : GoodIn wsX2_hear (va_wsS RX2 120 yX4_only wsX4_only) := goodIn_app (goodIn_of _ (by decide +kernel)) ggX2_hear_X4_only
theorem dX2_hear_0 : decode cX2_hear 0 = .ok (.aload_n 0, 1) := by decide +kernel
theorem dX2_hear_1 : decode cX2_hear 1 = .ok (.getfield 18, 3) := by decide +kernel
theorem dX2_hear_4 : decode cX2_hear 4 = .ok (.iload_n 1, 1) := by decide +kernel
theorem dX2_hear_5 : decode cX2_hear 5 = .ok (.aload_n 0, 1) := by decide +kernel
theorem dX2_hear_6 : decode cX2_hear 6 = .ok (.getfield 12, 3) := by decide +kernel
theorem dX2_hear_9 : decode cX2_hear 9 = .ok (.iload_n 1, 1) := by decide +kernel
theorem dX2_hear_10 : decode cX2_hear 10 = .ok (.invokevirtual 147, 3) := by decide +kernel
theorem dX2_hear_13 : decode cX2_hear 13 = .ok (.iastore, 1) := by decide +kernel
theorem dX2_hear_14 : decode cX2_hear 14 = .ok (.aload_n 0, 1) := by decide +kernel
theorem dX2_hear_15 : decode cX2_hear 15 = .ok (.getfield 18, 3) := by decide +kernel
theorem dX2_hear_18 : decode cX2_hear 18 = .ok (.iload_n 1, 1) := by decide +kernel
theorem dX2_hear_19 : decode cX2_hear 19 = .ok (.iaload, 1) := by decide +kernel
theorem dX2_hear_20 : decode cX2_hear 20 = .ok (.iload_n 1, 1) := by decide +kernel
theorem dX2_hear_21 : decode cX2_hear 21 = .ok (.aload_n 0, 1) := by decide +kernel
theorem dX2_hear_22 : decode cX2_hear 22 = .ok (.getfield 12, 3) := by decide +kernel
theorem dX2_hear_25 : decode cX2_hear 25 = .ok (.getfield 95, 3) := by decide +kernel
theorem dX2_hear_28 : decode cX2_hear 28 = .ok (.aload_n 0, 1) := by decide +kernel
theorem dX2_hear_29 : decode cX2_hear 29 = .ok (.getfield 12, 3) := by decide +kernel
theorem dX2_hear_32 : decode cX2_hear 32 = .ok (.getfield 137, 3) := by decide +kernel
theorem dX2_hear_35 : decode cX2_hear 35 = .ok (.invokestatic 150, 3) := by decide +kernel
theorem dX2_hear_38 : decode cX2_hear 38 = .ok (.ifCond .eq 5, 3) := by decide +kernel
theorem dX2_hear_41 : decode cX2_hear 41 = .ok (.iconst 1, 1) := by decide +kernel
theorem dX2_hear_42 : decode cX2_hear 42 = .ok (.ireturn, 1) := by decide +kernel
theorem dX2_hear_43 : decode cX2_hear 43 = .ok (.aload_n 0, 1) := by decide +kernel
theorem dX2_hear_44 : decode cX2_hear 44 = .ok (.getfield 12, 3) := by decide +kernel
theorem dX2_hear_47 : decode cX2_hear 47 = .ok (.dup, 1) := by decide +kernel
theorem dX2_hear_48 : decode cX2_hear 48 = .ok (.getfield 35, 3) := by decide +kernel
theorem dX2_hear_51 : decode cX2_hear 51 = .ok (.iload_n 1, 1) := by decide +kernel
theorem dX2_hear_52 : decode cX2_hear 52 = .ok (.invokestatic 120, 3) := by decide +kernel
theorem dX2_hear_55 : decode cX2_hear 55 = .ok (.ior, 1) := by decide +kernel
theorem dX2_hear_56 : decode cX2_hear 56 = .ok (.putfield 35, 3) := by decide +kernel
theorem dX2_hear_59 : decode cX2_hear 59 = .ok (.iconst 0, 1) := by decide +kernel
theorem dX2_hear_60 : decode cX2_hear 60 = .ok (.ireturn, 1) := by decide +kernel
set_option maxRecDepth 20000 in
theorem ggX2_rebuild_X6_isMember : GoodIn wsX2_rebuild wsX6_isMember := goodIn_r _ [4] (by decide +kernel) (by decide +kernel)
set_option maxRecDepth 20000 in
theorem gX2_rebuild_X6_isMember_n154 : GoodIn wsX2_rebuild (wsX6_isMember) := ggX2_rebuild_X6_isMember
set_option maxRecDepth 20000 in
theorem ggX2_rebuild_X4_has : GoodIn wsX2_rebuild wsX4_has := goodIn_r _ [8] (by decide +kernel) (by decide +kernel)
set_option maxRecDepth 20000 in
theorem gX2_rebuild_X4_has : GoodIn wsX2_rebuild (va_wsS RX2 130 yX4_has wsX4_has) := goodIn_app (goodIn_of _ (by decide +kernel)) ggX2_rebuild_X4_has
set_option maxRecDepth 20000 in
theorem ggX2_rebuild_X2_openedByThose : GoodIn wsX2_rebuild wsX2_openedByThose := goodIn_r _ [13, 1, 14, 5, 6, 7, 8, 15, 16, 17, 12, 18, 19, 20, 21, 22, 23, 24, 25, 26, 27, 28, 29, 30, 31, 32, 33, 34, 35, 36, 37, 38, 39, 40, 41, 42, 43, 44, 45, 46, 47, 48, 49, 50, 51, 52, 53, 54, 55, 56, 57, 58, 59, 60, 61, 62, 63, 64, 65, 66, 67, 68, 69, 70, 71, 72, 73, 74, 75, 76, 77, 78, 79, 80, 81, 82, 83, 84, 85, 86, 87, 88, 89, 90, 91, 92, 93, 94, 95, 96, 97, 98, 99] (by decide +kernel) (by decide +kernel)
set_option maxRecDepth 20000 in
theorem gX2_rebuild_X2_openedByThose : GoodIn wsX2_rebuild (wsV RX2 68 RX2 yX2_openedByThose wsX2_openedByThose) := goodIn_app (goodIn_of _ (by decide +kernel)) ggX2_rebuild_X2_openedByThose
set_option maxRecDepth 20000 in
theorem ggX2_rebuild_X4_only : GoodIn wsX2_rebuild wsX4_only := goodIn_r _ [52] (by decide +kernel) (by decide +kernel)
set_option maxRecDepth 20000 in
theorem gX2_rebuild_X4_only : GoodIn wsX2_rebuild (va_wsS RX2 120 yX4_only wsX4_only) := goodIn_app (goodIn_of _ (by decide +kernel)) ggX2_rebuild_X4_only
theorem dX2_rebuild_0 : decode cX2_rebuild 0 = .ok (.iload_n 1, 1) := by decide +kernel
theorem dX2_rebuild_1 : decode cX2_rebuild 1 = .ok (.invokestatic 154, 3) := by decide +kernel
theorem dX2_rebuild_4 : decode cX2_rebuild 4 = .ok (.ifCond .eq 17, 3) := by decide +kernel
theorem dX2_rebuild_7 : decode cX2_rebuild 7 = .ok (.aload_n 0, 1) := by decide +kernel
theorem dX2_rebuild_8 : decode cX2_rebuild 8 = .ok (.getfield 12, 3) := by decide +kernel
theorem dX2_rebuild_11 : decode cX2_rebuild 11 = .ok (.getfield 113, 3) := by decide +kernel
theorem dX2_rebuild_14 : decode cX2_rebuild 14 = .ok (.iload_n 1, 1) := by decide +kernel
theorem dX2_rebuild_15 : decode cX2_rebuild 15 = .ok (.invokestatic 130, 3) := by decide +kernel
theorem dX2_rebuild_18 : decode cX2_rebuild 18 = .ok (.ifCond .eq 6, 3) := by decide +kernel
theorem dX2_rebuild_21 : decode cX2_rebuild 21 = .ok (.bipush (-5), 2) := by decide +kernel
theorem dX2_rebuild_23 : decode cX2_rebuild 23 = .ok (.ireturn, 1) := by decide +kernel
theorem dX2_rebuild_24 : decode cX2_rebuild 24 = .ok (.aload_n 0, 1) := by decide +kernel
theorem dX2_rebuild_25 : decode cX2_rebuild 25 = .ok (.iload_n 2, 1) := by decide +kernel
theorem dX2_rebuild_26 : decode cX2_rebuild 26 = .ok (.iload_n 1, 1) := by decide +kernel
theorem dX2_rebuild_27 : decode cX2_rebuild 27 = .ok (.invokevirtual 68, 3) := by decide +kernel
theorem dX2_rebuild_30 : decode cX2_rebuild 30 = .ok (.istore_n 3, 1) := by decide +kernel
theorem dX2_rebuild_31 : decode cX2_rebuild 31 = .ok (.iload_n 3, 1) := by decide +kernel
theorem dX2_rebuild_32 : decode cX2_rebuild 32 = .ok (.ifCond .ge 5, 3) := by decide +kernel
theorem dX2_rebuild_35 : decode cX2_rebuild 35 = .ok (.iload_n 3, 1) := by decide +kernel
theorem dX2_rebuild_36 : decode cX2_rebuild 36 = .ok (.ireturn, 1) := by decide +kernel
theorem dX2_rebuild_37 : decode cX2_rebuild 37 = .ok (.aload_n 0, 1) := by decide +kernel
theorem dX2_rebuild_38 : decode cX2_rebuild 38 = .ok (.getfield 12, 3) := by decide +kernel
theorem dX2_rebuild_41 : decode cX2_rebuild 41 = .ok (.getfield 106, 3) := by decide +kernel
theorem dX2_rebuild_44 : decode cX2_rebuild 44 = .ok (.iload_n 1, 1) := by decide +kernel
theorem dX2_rebuild_45 : decode cX2_rebuild 45 = .ok (.iload_n 3, 1) := by decide +kernel
theorem dX2_rebuild_46 : decode cX2_rebuild 46 = .ok (.iastore, 1) := by decide +kernel
theorem dX2_rebuild_47 : decode cX2_rebuild 47 = .ok (.aload_n 0, 1) := by decide +kernel
theorem dX2_rebuild_48 : decode cX2_rebuild 48 = .ok (.getfield 12, 3) := by decide +kernel
theorem dX2_rebuild_51 : decode cX2_rebuild 51 = .ok (.dup, 1) := by decide +kernel
theorem dX2_rebuild_52 : decode cX2_rebuild 52 = .ok (.getfield 113, 3) := by decide +kernel
theorem dX2_rebuild_55 : decode cX2_rebuild 55 = .ok (.iload_n 1, 1) := by decide +kernel
theorem dX2_rebuild_56 : decode cX2_rebuild 56 = .ok (.invokestatic 120, 3) := by decide +kernel
theorem dX2_rebuild_59 : decode cX2_rebuild 59 = .ok (.ior, 1) := by decide +kernel
theorem dX2_rebuild_60 : decode cX2_rebuild 60 = .ok (.putfield 113, 3) := by decide +kernel
theorem dX2_rebuild_63 : decode cX2_rebuild 63 = .ok (.iconst 1, 1) := by decide +kernel
theorem dX2_rebuild_64 : decode cX2_rebuild 64 = .ok (.ireturn, 1) := by decide +kernel
set_option maxRecDepth 20000 in
theorem ggX2_steal_X6_isMember : GoodIn wsX2_steal wsX6_isMember := goodIn_r _ [4] (by decide +kernel) (by decide +kernel)
set_option maxRecDepth 20000 in
theorem gX2_steal_X6_isMember_n154 : GoodIn wsX2_steal (wsX6_isMember) := ggX2_steal_X6_isMember
set_option maxRecDepth 20000 in
theorem ggX2_steal_X4_has : GoodIn wsX2_steal wsX4_has := goodIn_r _ [8] (by decide +kernel) (by decide +kernel)
set_option maxRecDepth 20000 in
theorem gX2_steal_X4_has : GoodIn wsX2_steal (va_wsS RX2 130 yX4_has wsX4_has) := goodIn_app (goodIn_of _ (by decide +kernel)) ggX2_steal_X4_has
set_option maxRecDepth 20000 in
theorem ggX2_steal_X1_add : GoodIn wsX2_steal wsX1_add := goodIn_r _ [13, 14, 15, 16, 17, 18, 19, 20, 12, 21, 40, 41, 42, 43] (by decide +kernel) (by decide +kernel)
set_option maxRecDepth 20000 in
theorem gX2_steal_X1_add : GoodIn wsX2_steal (wsV RX2 160 RX1 yX1_add wsX1_add) := goodIn_app (goodIn_of _ (by decide +kernel)) ggX2_steal_X1_add
theorem dX2_steal_0 : decode cX2_steal 0 = .ok (.iload_n 1, 1) := by decide +kernel
theorem dX2_steal_1 : decode cX2_steal 1 = .ok (.invokestatic 154, 3) := by decide +kernel
theorem dX2_steal_4 : decode cX2_steal 4 = .ok (.ifCond .eq 17, 3) := by decide +kernel
theorem dX2_steal_7 : decode cX2_steal 7 = .ok (.aload_n 0, 1) := by decide +kernel
theorem dX2_steal_8 : decode cX2_steal 8 = .ok (.getfield 12, 3) := by decide +kernel
theorem dX2_steal_11 : decode cX2_steal 11 = .ok (.getfield 113, 3) := by decide +kernel
theorem dX2_steal_14 : decode cX2_steal 14 = .ok (.iload_n 1, 1) := by decide +kernel
theorem dX2_steal_15 : decode cX2_steal 15 = .ok (.invokestatic 130, 3) := by decide +kernel
theorem dX2_steal_18 : decode cX2_steal 18 = .ok (.ifCond .ne 6, 3) := by decide +kernel
theorem dX2_steal_21 : decode cX2_steal 21 = .ok (.bipush (-5), 2) := by decide +kernel
theorem dX2_steal_23 : decode cX2_steal 23 = .ok (.ireturn, 1) := by decide +kernel
theorem dX2_steal_24 : decode cX2_steal 24 = .ok (.aload_n 0, 1) := by decide +kernel
theorem dX2_steal_25 : decode cX2_steal 25 = .ok (.getfield 12, 3) := by decide +kernel
theorem dX2_steal_28 : decode cX2_steal 28 = .ok (.getfield 87, 3) := by decide +kernel
theorem dX2_steal_31 : decode cX2_steal 31 = .ok (.iload_n 1, 1) := by decide +kernel
theorem dX2_steal_32 : decode cX2_steal 32 = .ok (.aload_n 0, 1) := by decide +kernel
theorem dX2_steal_33 : decode cX2_steal 33 = .ok (.getfield 12, 3) := by decide +kernel
theorem dX2_steal_36 : decode cX2_steal 36 = .ok (.getfield 157, 3) := by decide +kernel
theorem dX2_steal_39 : decode cX2_steal 39 = .ok (.aload_n 0, 1) := by decide +kernel
theorem dX2_steal_40 : decode cX2_steal 40 = .ok (.getfield 12, 3) := by decide +kernel
theorem dX2_steal_43 : decode cX2_steal 43 = .ok (.getfield 106, 3) := by decide +kernel
theorem dX2_steal_46 : decode cX2_steal 46 = .ok (.iload_n 1, 1) := by decide +kernel
theorem dX2_steal_47 : decode cX2_steal 47 = .ok (.iaload, 1) := by decide +kernel
theorem dX2_steal_48 : decode cX2_steal 48 = .ok (.invokevirtual 160, 3) := by decide +kernel
theorem dX2_steal_51 : decode cX2_steal 51 = .ok (.aload_n 0, 1) := by decide +kernel
theorem dX2_steal_52 : decode cX2_steal 52 = .ok (.getfield 12, 3) := by decide +kernel
theorem dX2_steal_55 : decode cX2_steal 55 = .ok (.getfield 87, 3) := by decide +kernel
theorem dX2_steal_58 : decode cX2_steal 58 = .ok (.getfield 164, 3) := by decide +kernel
theorem dX2_steal_61 : decode cX2_steal 61 = .ok (.ireturn, 1) := by decide +kernel
set_option maxRecDepth 20000 in
theorem ggX2_fresh_X4_has : GoodIn wsX2_fresh wsX4_has := goodIn_r _ [7] (by decide +kernel) (by decide +kernel)
set_option maxRecDepth 20000 in
theorem gX2_fresh_X4_has : GoodIn wsX2_fresh (va_wsS RX2 130 yX4_has wsX4_has) := goodIn_app (goodIn_of _ (by decide +kernel)) ggX2_fresh_X4_has
set_option maxRecDepth 20000 in
theorem ggX2_fresh_X2_offer : GoodIn wsX2_fresh wsX2_offer := goodIn_r _ [12, 13, 1, 14, 2, 15, 16, 17, 18, 19, 20, 21, 4, 5, 6, 7, 22, 23, 24, 11, 25, 26, 27, 28, 29, 30, 31, 32, 33, 34, 35, 36, 37, 38, 39, 40, 41, 42, 43, 44, 45, 46, 47, 48, 49, 50, 51, 52, 53, 54, 55, 88, 89, 90, 91, 92, 93, 94, 95, 96, 97, 98, 99, 100, 101, 102, 103, 104, 105] (by decide +kernel) (by decide +kernel)
set_option maxRecDepth 20000 in
theorem gX2_fresh_X2_offer : GoodIn wsX2_fresh (wsV RX2 167 RX2 yX2_offer wsX2_offer) := goodIn_app (goodIn_of _ (by decide +kernel)) ggX2_fresh_X2_offer
set_option maxRecDepth 20000 in
theorem ggX2_fresh_X2_pourTaken : GoodIn wsX2_fresh wsX2_pourTaken := goodIn_r _ [59, 2, 4, 5, 6, 7, 60, 61, 62, 11, 63, 1, 3, 13, 32, 33, 34, 35, 36, 37, 38, 39, 40, 17, 41, 42, 43, 44, 15, 16, 18, 19, 20, 21, 64, 65, 50, 51, 88, 89, 90, 91, 92, 93, 94, 95, 96, 97, 98, 99, 100, 101, 102, 103, 104, 105] (by decide +kernel) (by decide +kernel)
set_option maxRecDepth 20000 in
theorem gX2_fresh_X2_pourTaken : GoodIn wsX2_fresh (wsV RX2 170 RX2 yX2_pourTaken wsX2_pourTaken) := goodIn_app (goodIn_of _ (by decide +kernel)) ggX2_fresh_X2_pourTaken
set_option maxRecDepth 20000 in
theorem ggX2_fresh_X2_closeEpoch : GoodIn wsX2_fresh wsX2_closeEpoch := goodIn_r _ [69, 1, 70, 71, 72, 29, 73, 74, 75, 76, 77, 78, 79, 80, 81, 82, 83, 84, 85, 86, 87, 88, 89, 90, 91, 92, 93, 94, 95, 96, 97, 98, 99, 100, 101, 102, 103, 104, 105] (by decide +kernel) (by decide +kernel)
set_option maxRecDepth 20000 in
theorem gX2_fresh_X2_closeEpoch : GoodIn wsX2_fresh (wsV RX2 173 RX2 yX2_closeEpoch wsX2_closeEpoch) := goodIn_app (goodIn_of _ (by decide +kernel)) ggX2_fresh_X2_closeEpoch
theorem dX2_fresh_0 : decode cX2_fresh 0 = .ok (.aload_n 0, 1) := by decide +kernel
theorem dX2_fresh_1 : decode cX2_fresh 1 = .ok (.getfield 12, 3) := by decide +kernel
theorem dX2_fresh_4 : decode cX2_fresh 4 = .ok (.getfield 137, 3) := by decide +kernel
theorem dX2_fresh_7 : decode cX2_fresh 7 = .ok (.istore_n 1, 1) := by decide +kernel
theorem dX2_fresh_8 : decode cX2_fresh 8 = .ok (.aload_n 0, 1) := by decide +kernel
theorem dX2_fresh_9 : decode cX2_fresh 9 = .ok (.iconst 0, 1) := by decide +kernel
theorem dX2_fresh_10 : decode cX2_fresh 10 = .ok (.putfield 31, 3) := by decide +kernel
theorem dX2_fresh_13 : decode cX2_fresh 13 = .ok (.iconst 1, 1) := by decide +kernel
theorem dX2_fresh_14 : decode cX2_fresh 14 = .ok (.istore_n 2, 1) := by decide +kernel
theorem dX2_fresh_15 : decode cX2_fresh 15 = .ok (.iload_n 2, 1) := by decide +kernel
theorem dX2_fresh_16 : decode cX2_fresh 16 = .ok (.bipush 7, 2) := by decide +kernel
theorem dX2_fresh_18 : decode cX2_fresh 18 = .ok (.if_icmp .gt 37, 3) := by decide +kernel
theorem dX2_fresh_21 : decode cX2_fresh 21 = .ok (.aload_n 0, 1) := by decide +kernel
theorem dX2_fresh_22 : decode cX2_fresh 22 = .ok (.getfield 12, 3) := by decide +kernel
theorem dX2_fresh_25 : decode cX2_fresh 25 = .ok (.getfield 113, 3) := by decide +kernel
theorem dX2_fresh_28 : decode cX2_fresh 28 = .ok (.iload_n 2, 1) := by decide +kernel
theorem dX2_fresh_29 : decode cX2_fresh 29 = .ok (.invokestatic 130, 3) := by decide +kernel
theorem dX2_fresh_32 : decode cX2_fresh 32 = .ok (.ifCond .eq 17, 3) := by decide +kernel
theorem dX2_fresh_35 : decode cX2_fresh 35 = .ok (.aload_n 0, 1) := by decide +kernel
theorem dX2_fresh_36 : decode cX2_fresh 36 = .ok (.iload_n 2, 1) := by decide +kernel
theorem dX2_fresh_37 : decode cX2_fresh 37 = .ok (.iconst 0, 1) := by decide +kernel
theorem dX2_fresh_38 : decode cX2_fresh 38 = .ok (.iload_n 1, 1) := by decide +kernel
theorem dX2_fresh_39 : decode cX2_fresh 39 = .ok (.invokevirtual 167, 3) := by decide +kernel
theorem dX2_fresh_42 : decode cX2_fresh 42 = .ok (.aload_n 0, 1) := by decide +kernel
theorem dX2_fresh_43 : decode cX2_fresh 43 = .ok (.getfield 28, 3) := by decide +kernel
theorem dX2_fresh_46 : decode cX2_fresh 46 = .ok (.iload_n 2, 1) := by decide +kernel
theorem dX2_fresh_47 : decode cX2_fresh 47 = .ok (.iconst 1, 1) := by decide +kernel
theorem dX2_fresh_48 : decode cX2_fresh 48 = .ok (.iastore, 1) := by decide +kernel
theorem dX2_fresh_49 : decode cX2_fresh 49 = .ok (.iinc 2 1, 3) := by decide +kernel
theorem dX2_fresh_52 : decode cX2_fresh 52 = .ok (.goto (-37), 3) := by decide +kernel
theorem dX2_fresh_55 : decode cX2_fresh 55 = .ok (.aload_n 0, 1) := by decide +kernel
theorem dX2_fresh_56 : decode cX2_fresh 56 = .ok (.iload_n 1, 1) := by decide +kernel
theorem dX2_fresh_57 : decode cX2_fresh 57 = .ok (.invokevirtual 170, 3) := by decide +kernel
theorem dX2_fresh_60 : decode cX2_fresh 60 = .ok (.aload_n 0, 1) := by decide +kernel
theorem dX2_fresh_61 : decode cX2_fresh 61 = .ok (.iload_n 1, 1) := by decide +kernel
theorem dX2_fresh_62 : decode cX2_fresh 62 = .ok (.invokevirtual 173, 3) := by decide +kernel
theorem dX2_fresh_65 : decode cX2_fresh 65 = .ok (.ireturn, 1) := by decide +kernel
set_option maxRecDepth 20000 in
theorem ggX2_move_J6_bitCount_0f7a4 : GoodIn wsX2_move wsJ6_bitCount_0f7a4 := goodIn_r _ [8, 9, 10, 11] (by decide +kernel) (by decide +kernel)
set_option maxRecDepth 20000 in
theorem gX2_move_J6_bitCount_0f7a4 : GoodIn wsX2_move (va_wsS RX2 125 yJ6_bitCount_0f7a4 wsJ6_bitCount_0f7a4) := goodIn_app (goodIn_of _ (by decide +kernel)) ggX2_move_J6_bitCount_0f7a4
set_option maxRecDepth 20000 in
theorem ggX2_move_X4_has : GoodIn wsX2_move wsX4_has := goodIn_r _ [15] (by decide +kernel) (by decide +kernel)
set_option maxRecDepth 20000 in
theorem gX2_move_X4_has : GoodIn wsX2_move (va_wsS RX2 130 yX4_has wsX4_has) := goodIn_app (goodIn_of _ (by decide +kernel)) ggX2_move_X4_has
set_option maxRecDepth 20000 in
theorem ggX2_move_X2_hear : GoodIn wsX2_move wsX2_hear := goodIn_r _ [20, 3, 1, 21, 22, 23, 24, 25, 26, 27, 28, 29, 30, 31, 32, 33, 34, 35, 36, 37, 38, 39, 40, 41, 42, 43, 44, 45, 46, 47, 48, 49, 50, 51, 52, 53, 14, 54, 115, 116, 117, 118, 119, 120, 121, 122, 123, 124, 125, 126, 127, 128, 129, 130, 131, 132] (by decide +kernel) (by decide +kernel)
set_option maxRecDepth 20000 in
theorem gX2_move_X2_hear : GoodIn wsX2_move (wsV RX2 134 RX2 yX2_hear wsX2_hear) := goodIn_app (goodIn_of _ (by decide +kernel)) ggX2_move_X2_hear
set_option maxRecDepth 20000 in
theorem ggX2_move_X2_offer : GoodIn wsX2_move wsX2_offer := goodIn_r _ [58, 59, 1, 60, 2, 61, 50, 34, 51, 43, 44, 45, 12, 13, 14, 15, 62, 63, 64, 19, 65, 66, 28, 29, 24, 30, 31, 67, 68, 69, 70, 40, 41, 42, 71, 72, 73, 74, 33, 35, 36, 37, 38, 39, 46, 47, 48, 49, 52, 53, 54, 115, 116, 117, 118, 119, 120, 121, 122, 123, 124, 125, 126, 127, 128, 129, 130, 131, 132] (by decide +kernel) (by decide +kernel)
set_option maxRecDepth 20000 in
theorem gX2_move_X2_offer : GoodIn wsX2_move (wsV RX2 167 RX2 yX2_offer wsX2_offer) := goodIn_app (goodIn_of _ (by decide +kernel)) ggX2_move_X2_offer
set_option maxRecDepth 20000 in
theorem ggX2_move_X5_weight : GoodIn wsX2_move wsX5_weight := goodIn_r _ [77, 78, 13, 14, 15, 79, 80, 34, 81, 82, 72, 73, 83, 84, 85] (by decide +kernel) (by decide +kernel)
set_option maxRecDepth 20000 in
theorem gX2_move_X5_weight : GoodIn wsX2_move (va_wsS RX2 176 yX5_weight wsX5_weight) := goodIn_app (goodIn_of _ (by decide +kernel)) ggX2_move_X5_weight
set_option maxRecDepth 20000 in
theorem ggX2_move_J7_fill_53178 : GoodIn wsX2_move wsJ7_fill_53178 := goodIn_r _ [89] (by decide +kernel) (by decide +kernel)
set_option maxRecDepth 20000 in
theorem gX2_move_J7_fill_53178 : GoodIn wsX2_move (va_wsS RX2 180 yJ7_fill_53178 wsJ7_fill_53178) := goodIn_app (goodIn_of _ (by decide +kernel)) ggX2_move_J7_fill_53178
set_option maxRecDepth 20000 in
theorem ggX2_move_X2_pourTaken : GoodIn wsX2_move wsX2_pourTaken := goodIn_r _ [93, 2, 12, 13, 14, 15, 94, 95, 96, 19, 97, 1, 4, 59, 67, 68, 69, 70, 40, 41, 42, 71, 72, 34, 73, 74, 33, 35, 61, 50, 51, 43, 44, 45, 98, 99, 47, 48, 115, 116, 117, 118, 119, 120, 121, 122, 123, 124, 125, 126, 127, 128, 129, 130, 131, 132] (by decide +kernel) (by decide +kernel)
set_option maxRecDepth 20000 in
theorem gX2_move_X2_pourTaken : GoodIn wsX2_move (wsV RX2 170 RX2 yX2_pourTaken wsX2_pourTaken) := goodIn_app (goodIn_of _ (by decide +kernel)) ggX2_move_X2_pourTaken
set_option maxRecDepth 20000 in
theorem ggX2_move_X2_closeEpoch : GoodIn wsX2_move wsX2_closeEpoch := goodIn_r _ [103, 1, 104, 105, 106, 24, 107, 108, 109, 110, 111, 112, 113, 114, 5, 6, 7, 8, 9, 10, 11, 115, 116, 117, 118, 119, 120, 121, 122, 123, 124, 125, 126, 127, 128, 129, 130, 131, 132] (by decide +kernel) (by decide +kernel)
set_option maxRecDepth 20000 in
theorem gX2_move_X2_closeEpoch : GoodIn wsX2_move (wsV RX2 173 RX2 yX2_closeEpoch wsX2_closeEpoch) := goodIn_app (goodIn_of _ (by decide +kernel)) ggX2_move_X2_closeEpoch
theorem dX2_move_0 : decode cX2_move 0 = .ok (.aload_n 0, 1) := by decide +kernel
theorem dX2_move_1 : decode cX2_move 1 = .ok (.getfield 12, 3) := by decide +kernel
theorem dX2_move_4 : decode cX2_move 4 = .ok (.getfield 137, 3) := by decide +kernel
theorem dX2_move_7 : decode cX2_move 7 = .ok (.istore_n 3, 1) := by decide +kernel
theorem dX2_move_8 : decode cX2_move 8 = .ok (.iload_n 2, 1) := by decide +kernel
theorem dX2_move_9 : decode cX2_move 9 = .ok (.aload_n 0, 1) := by decide +kernel
theorem dX2_move_10 : decode cX2_move 10 = .ok (.getfield 12, 3) := by decide +kernel
theorem dX2_move_13 : decode cX2_move 13 = .ok (.getfield 113, 3) := by decide +kernel
theorem dX2_move_16 : decode cX2_move 16 = .ok (.iand, 1) := by decide +kernel
theorem dX2_move_17 : decode cX2_move 17 = .ok (.istore 4, 2) := by decide +kernel
theorem dX2_move_19 : decode cX2_move 19 = .ok (.aload_n 0, 1) := by decide +kernel
theorem dX2_move_20 : decode cX2_move 20 = .ok (.iconst 0, 1) := by decide +kernel
theorem dX2_move_21 : decode cX2_move 21 = .ok (.putfield 31, 3) := by decide +kernel
theorem dX2_move_24 : decode cX2_move 24 = .ok (.iconst 1, 1) := by decide +kernel
theorem dX2_move_25 : decode cX2_move 25 = .ok (.istore 5, 2) := by decide +kernel
theorem dX2_move_27 : decode cX2_move 27 = .ok (.iload 5, 2) := by decide +kernel
theorem dX2_move_29 : decode cX2_move 29 = .ok (.bipush 7, 2) := by decide +kernel
theorem dX2_move_31 : decode cX2_move 31 = .ok (.if_icmp .gt 53, 3) := by decide +kernel
theorem dX2_move_34 : decode cX2_move 34 = .ok (.aload_n 0, 1) := by decide +kernel
theorem dX2_move_35 : decode cX2_move 35 = .ok (.getfield 31, 3) := by decide +kernel
theorem dX2_move_38 : decode cX2_move 38 = .ok (.invokestatic 125, 3) := by decide +kernel
theorem dX2_move_41 : decode cX2_move 41 = .ok (.iload_n 3, 1) := by decide +kernel
theorem dX2_move_42 : decode cX2_move 42 = .ok (.if_icmp .ge 42, 3) := by decide +kernel
theorem dX2_move_45 : decode cX2_move 45 = .ok (.iload 4, 2) := by decide +kernel
theorem dX2_move_47 : decode cX2_move 47 = .ok (.iload 5, 2) := by decide +kernel
theorem dX2_move_49 : decode cX2_move 49 = .ok (.invokestatic 130, 3) := by decide +kernel
theorem dX2_move_52 : decode cX2_move 52 = .ok (.ifCond .eq 26, 3) := by decide +kernel
theorem dX2_move_55 : decode cX2_move 55 = .ok (.aload_n 0, 1) := by decide +kernel
theorem dX2_move_56 : decode cX2_move 56 = .ok (.iload 5, 2) := by decide +kernel
theorem dX2_move_58 : decode cX2_move 58 = .ok (.invokevirtual 134, 3) := by decide +kernel
theorem dX2_move_61 : decode cX2_move 61 = .ok (.ifCond .eq 17, 3) := by decide +kernel
theorem dX2_move_64 : decode cX2_move 64 = .ok (.aload_n 0, 1) := by decide +kernel
theorem dX2_move_65 : decode cX2_move 65 = .ok (.iload 5, 2) := by decide +kernel
theorem dX2_move_67 : decode cX2_move 67 = .ok (.aload_n 0, 1) := by decide +kernel
theorem dX2_move_68 : decode cX2_move 68 = .ok (.getfield 18, 3) := by decide +kernel
theorem dX2_move_71 : decode cX2_move 71 = .ok (.iload 5, 2) := by decide +kernel
theorem dX2_move_73 : decode cX2_move 73 = .ok (.iaload, 1) := by decide +kernel
theorem dX2_move_74 : decode cX2_move 74 = .ok (.iload_n 1, 1) := by decide +kernel
theorem dX2_move_75 : decode cX2_move 75 = .ok (.invokevirtual 167, 3) := by decide +kernel
theorem dX2_move_78 : decode cX2_move 78 = .ok (.iinc 5 1, 3) := by decide +kernel
theorem dX2_move_81 : decode cX2_move 81 = .ok (.goto (-54), 3) := by decide +kernel
theorem dX2_move_84 : decode cX2_move 84 = .ok (.aload_n 0, 1) := by decide +kernel
theorem dX2_move_85 : decode cX2_move 85 = .ok (.getfield 31, 3) := by decide +kernel
theorem dX2_move_88 : decode cX2_move 88 = .ok (.invokestatic 125, 3) := by decide +kernel
theorem dX2_move_91 : decode cX2_move 91 = .ok (.iload_n 3, 1) := by decide +kernel
theorem dX2_move_92 : decode cX2_move 92 = .ok (.if_icmp .ge 6, 3) := by decide +kernel
theorem dX2_move_95 : decode cX2_move 95 = .ok (.bipush (-5), 2) := by decide +kernel
theorem dX2_move_97 : decode cX2_move 97 = .ok (.ireturn, 1) := by decide +kernel
theorem dX2_move_98 : decode cX2_move 98 = .ok (.iconst 1, 1) := by decide +kernel
theorem dX2_move_99 : decode cX2_move 99 = .ok (.istore 5, 2) := by decide +kernel
theorem dX2_move_101 : decode cX2_move 101 = .ok (.iload 5, 2) := by decide +kernel
theorem dX2_move_103 : decode cX2_move 103 = .ok (.bipush 7, 2) := by decide +kernel
theorem dX2_move_105 : decode cX2_move 105 = .ok (.if_icmp .gt 26, 3) := by decide +kernel
theorem dX2_move_108 : decode cX2_move 108 = .ok (.aload_n 0, 1) := by decide +kernel
theorem dX2_move_109 : decode cX2_move 109 = .ok (.getfield 28, 3) := by decide +kernel
theorem dX2_move_112 : decode cX2_move 112 = .ok (.iload 5, 2) := by decide +kernel
theorem dX2_move_114 : decode cX2_move 114 = .ok (.iload 5, 2) := by decide +kernel
theorem dX2_move_116 : decode cX2_move 116 = .ok (.aload_n 0, 1) := by decide +kernel
theorem dX2_move_117 : decode cX2_move 117 = .ok (.getfield 31, 3) := by decide +kernel
theorem dX2_move_120 : decode cX2_move 120 = .ok (.iconst 0, 1) := by decide +kernel
theorem dX2_move_121 : decode cX2_move 121 = .ok (.invokestatic 176, 3) := by decide +kernel
theorem dX2_move_124 : decode cX2_move 124 = .ok (.iastore, 1) := by decide +kernel
theorem dX2_move_125 : decode cX2_move 125 = .ok (.iinc 5 1, 3) := by decide +kernel
theorem dX2_move_128 : decode cX2_move 128 = .ok (.goto (-27), 3) := by decide +kernel
theorem dX2_move_131 : decode cX2_move 131 = .ok (.aload_n 0, 1) := by decide +kernel
theorem dX2_move_132 : decode cX2_move 132 = .ok (.getfield 12, 3) := by decide +kernel
theorem dX2_move_135 : decode cX2_move 135 = .ok (.getfield 106, 3) := by decide +kernel
theorem dX2_move_138 : decode cX2_move 138 = .ok (.iconst 0, 1) := by decide +kernel
theorem dX2_move_139 : decode cX2_move 139 = .ok (.invokestatic 180, 3) := by decide +kernel
theorem dX2_move_142 : decode cX2_move 142 = .ok (.aload_n 0, 1) := by decide +kernel
theorem dX2_move_143 : decode cX2_move 143 = .ok (.getfield 12, 3) := by decide +kernel
theorem dX2_move_146 : decode cX2_move 146 = .ok (.getfield 95, 3) := by decide +kernel
theorem dX2_move_149 : decode cX2_move 149 = .ok (.iconst 1, 1) := by decide +kernel
theorem dX2_move_150 : decode cX2_move 150 = .ok (.invokestatic 180, 3) := by decide +kernel
theorem dX2_move_153 : decode cX2_move 153 = .ok (.aload_n 0, 1) := by decide +kernel
theorem dX2_move_154 : decode cX2_move 154 = .ok (.iload_n 1, 1) := by decide +kernel
theorem dX2_move_155 : decode cX2_move 155 = .ok (.invokevirtual 170, 3) := by decide +kernel
theorem dX2_move_158 : decode cX2_move 158 = .ok (.aload_n 0, 1) := by decide +kernel
theorem dX2_move_159 : decode cX2_move 159 = .ok (.iload_n 1, 1) := by decide +kernel
theorem dX2_move_160 : decode cX2_move 160 = .ok (.invokevirtual 173, 3) := by decide +kernel
theorem dX2_move_163 : decode cX2_move 163 = .ok (.ireturn, 1) := by decide +kernel
set_option maxRecDepth 20000 in
theorem ggX2_offer_X5_sealOf : GoodIn wsX2_offer wsX5_sealOf := goodIn_r _ [8, 9, 10, 7, 11] (by decide +kernel) (by decide +kernel)
set_option maxRecDepth 20000 in
theorem gX2_offer_X5_sealOf : GoodIn wsX2_offer (va_wsS RX2 101 yX5_sealOf wsX5_sealOf) := goodIn_app (goodIn_of _ (by decide +kernel)) ggX2_offer_X5_sealOf
set_option maxRecDepth 20000 in
theorem ggX2_offer_X4_has : GoodIn wsX2_offer wsX4_has := goodIn_r _ [15] (by decide +kernel) (by decide +kernel)
set_option maxRecDepth 20000 in
theorem gX2_offer_X4_has : GoodIn wsX2_offer (va_wsS RX2 130 yX4_has wsX4_has) := goodIn_app (goodIn_of _ (by decide +kernel)) ggX2_offer_X4_has
set_option maxRecDepth 20000 in
theorem ggX2_offer_X2_sent : GoodIn wsX2_offer wsX2_sent := goodIn_r _ [20, 2, 1, 21, 22, 23, 24, 25, 26, 27, 28, 19, 29, 30, 31, 32, 33, 34, 35, 7, 36, 37, 38, 39, 51, 52, 53, 54, 55, 56, 57, 58, 59, 60, 61, 62, 63, 64, 65, 66, 67, 68] (by decide +kernel) (by decide +kernel)
set_option maxRecDepth 20000 in
theorem gX2_offer_X2_sent : GoodIn wsX2_offer (wsV RX2 186 RX2 yX2_sent wsX2_sent) := goodIn_app (goodIn_of _ (by decide +kernel)) ggX2_offer_X2_sent
set_option maxRecDepth 20000 in
theorem ggX2_offer_X5_fitting : GoodIn wsX2_offer wsX5_fitting := goodIn_r _ [42, 43, 31, 32, 33, 9, 10, 7, 11, 44, 45, 46, 47, 6, 8] (by decide +kernel) (by decide +kernel)
set_option maxRecDepth 20000 in
theorem gX2_offer_X5_fitting : GoodIn wsX2_offer (va_wsS RX2 150 yX5_fitting wsX5_fitting) := goodIn_app (goodIn_of _ (by decide +kernel)) ggX2_offer_X5_fitting
set_option maxRecDepth 20000 in
theorem ggX2_offer_X0_bend : GoodIn wsX2_offer wsX0_bend := goodIn_r _ [25, 26, 57, 58, 59, 60, 61, 62, 63, 64, 65, 66, 67, 68] (by decide +kernel) (by decide +kernel)
set_option maxRecDepth 20000 in
theorem gX2_offer_X0_bend : GoodIn wsX2_offer (wsV RX2 189 RX0 yX0_bend wsX0_bend) := goodIn_app (goodIn_of _ (by decide +kernel)) ggX2_offer_X0_bend
set_option maxRecDepth 20000 in
theorem ggX2_offer_X4_only : GoodIn wsX2_offer wsX4_only := goodIn_r _ [50] (by decide +kernel) (by decide +kernel)
set_option maxRecDepth 20000 in
theorem gX2_offer_X4_only : GoodIn wsX2_offer (va_wsS RX2 120 yX4_only wsX4_only) := goodIn_app (goodIn_of _ (by decide +kernel)) ggX2_offer_X4_only
theorem dX2_offer_0 : decode cX2_offer 0 = .ok (.iload_n 1, 1) := by decide +kernel
theorem dX2_offer_1 : decode cX2_offer 1 = .ok (.iconst 5, 1) := by decide +kernel
theorem dX2_offer_2 : decode cX2_offer 2 = .ok (.imul, 1) := by decide +kernel
theorem dX2_offer_3 : decode cX2_offer 3 = .ok (.istore 4, 2) := by decide +kernel
theorem dX2_offer_5 : decode cX2_offer 5 = .ok (.iconst 0, 1) := by decide +kernel
theorem dX2_offer_6 : decode cX2_offer 6 = .ok (.istore 5, 2) := by decide +kernel
theorem dX2_offer_8 : decode cX2_offer 8 = .ok (.iload 5, 2) := by decide +kernel
theorem dX2_offer_10 : decode cX2_offer 10 = .ok (.iload_n 3, 1) := by decide +kernel
theorem dX2_offer_11 : decode cX2_offer 11 = .ok (.if_icmp .ge 67, 3) := by decide +kernel
theorem dX2_offer_14 : decode cX2_offer 14 = .ok (.iload 5, 2) := by decide +kernel
theorem dX2_offer_16 : decode cX2_offer 16 = .ok (.iconst 5, 1) := by decide +kernel
theorem dX2_offer_17 : decode cX2_offer 17 = .ok (.if_icmp .ge 61, 3) := by decide +kernel
theorem dX2_offer_20 : decode cX2_offer 20 = .ok (.aload_n 0, 1) := by decide +kernel
theorem dX2_offer_21 : decode cX2_offer 21 = .ok (.getfield 22, 3) := by decide +kernel
theorem dX2_offer_24 : decode cX2_offer 24 = .ok (.iload 4, 2) := by decide +kernel
theorem dX2_offer_26 : decode cX2_offer 26 = .ok (.iload 5, 2) := by decide +kernel
theorem dX2_offer_28 : decode cX2_offer 28 = .ok (.iadd, 1) := by decide +kernel
theorem dX2_offer_29 : decode cX2_offer 29 = .ok (.iload 5, 2) := by decide +kernel
theorem dX2_offer_31 : decode cX2_offer 31 = .ok (.ifCond .ne 7, 3) := by decide +kernel
theorem dX2_offer_34 : decode cX2_offer 34 = .ok (.iload_n 2, 1) := by decide +kernel
theorem dX2_offer_35 : decode cX2_offer 35 = .ok (.goto 16, 3) := by decide +kernel
theorem dX2_offer_38 : decode cX2_offer 38 = .ok (.aload_n 0, 1) := by decide +kernel
theorem dX2_offer_39 : decode cX2_offer 39 = .ok (.getfield 12, 3) := by decide +kernel
theorem dX2_offer_42 : decode cX2_offer 42 = .ok (.getfield 98, 3) := by decide +kernel
theorem dX2_offer_45 : decode cX2_offer 45 = .ok (.iload 4, 2) := by decide +kernel
theorem dX2_offer_47 : decode cX2_offer 47 = .ok (.iload 5, 2) := by decide +kernel
theorem dX2_offer_49 : decode cX2_offer 49 = .ok (.iadd, 1) := by decide +kernel
theorem dX2_offer_50 : decode cX2_offer 50 = .ok (.iaload, 1) := by decide +kernel
theorem dX2_offer_51 : decode cX2_offer 51 = .ok (.iastore, 1) := by decide +kernel
theorem dX2_offer_52 : decode cX2_offer 52 = .ok (.aload_n 0, 1) := by decide +kernel
theorem dX2_offer_53 : decode cX2_offer 53 = .ok (.getfield 25, 3) := by decide +kernel
theorem dX2_offer_56 : decode cX2_offer 56 = .ok (.iload 5, 2) := by decide +kernel
theorem dX2_offer_58 : decode cX2_offer 58 = .ok (.aload_n 0, 1) := by decide +kernel
theorem dX2_offer_59 : decode cX2_offer 59 = .ok (.getfield 22, 3) := by decide +kernel
theorem dX2_offer_62 : decode cX2_offer 62 = .ok (.iload 4, 2) := by decide +kernel
theorem dX2_offer_64 : decode cX2_offer 64 = .ok (.iload 5, 2) := by decide +kernel
theorem dX2_offer_66 : decode cX2_offer 66 = .ok (.iadd, 1) := by decide +kernel
theorem dX2_offer_67 : decode cX2_offer 67 = .ok (.iaload, 1) := by decide +kernel
theorem dX2_offer_68 : decode cX2_offer 68 = .ok (.invokestatic 101, 3) := by decide +kernel
theorem dX2_offer_71 : decode cX2_offer 71 = .ok (.iastore, 1) := by decide +kernel
theorem dX2_offer_72 : decode cX2_offer 72 = .ok (.iinc 5 1, 3) := by decide +kernel
theorem dX2_offer_75 : decode cX2_offer 75 = .ok (.goto (-67), 3) := by decide +kernel
theorem dX2_offer_78 : decode cX2_offer 78 = .ok (.iconst 0, 1) := by decide +kernel
theorem dX2_offer_79 : decode cX2_offer 79 = .ok (.istore 5, 2) := by decide +kernel
theorem dX2_offer_81 : decode cX2_offer 81 = .ok (.iconst 0, 1) := by decide +kernel
theorem dX2_offer_82 : decode cX2_offer 82 = .ok (.istore 6, 2) := by decide +kernel
theorem dX2_offer_84 : decode cX2_offer 84 = .ok (.iconst 1, 1) := by decide +kernel
theorem dX2_offer_85 : decode cX2_offer 85 = .ok (.istore 7, 2) := by decide +kernel
theorem dX2_offer_87 : decode cX2_offer 87 = .ok (.iload 7, 2) := by decide +kernel
theorem dX2_offer_89 : decode cX2_offer 89 = .ok (.bipush 7, 2) := by decide +kernel
theorem dX2_offer_91 : decode cX2_offer 91 = .ok (.if_icmp .gt 92, 3) := by decide +kernel
theorem dX2_offer_94 : decode cX2_offer 94 = .ok (.aload_n 0, 1) := by decide +kernel
theorem dX2_offer_95 : decode cX2_offer 95 = .ok (.getfield 12, 3) := by decide +kernel
theorem dX2_offer_98 : decode cX2_offer 98 = .ok (.getfield 113, 3) := by decide +kernel
theorem dX2_offer_101 : decode cX2_offer 101 = .ok (.iload 7, 2) := by decide +kernel
theorem dX2_offer_103 : decode cX2_offer 103 = .ok (.invokestatic 130, 3) := by decide +kernel
theorem dX2_offer_106 : decode cX2_offer 106 = .ok (.ifCond .eq 71, 3) := by decide +kernel
theorem dX2_offer_109 : decode cX2_offer 109 = .ok (.aload_n 0, 1) := by decide +kernel
theorem dX2_offer_110 : decode cX2_offer 110 = .ok (.iload_n 1, 1) := by decide +kernel
theorem dX2_offer_111 : decode cX2_offer 111 = .ok (.iload 7, 2) := by decide +kernel
theorem dX2_offer_113 : decode cX2_offer 113 = .ok (.iload_n 3, 1) := by decide +kernel
theorem dX2_offer_114 : decode cX2_offer 114 = .ok (.invokevirtual 186, 3) := by decide +kernel
theorem dX2_offer_117 : decode cX2_offer 117 = .ok (.iload 7, 2) := by decide +kernel
theorem dX2_offer_119 : decode cX2_offer 119 = .ok (.aload_n 0, 1) := by decide +kernel
theorem dX2_offer_120 : decode cX2_offer 120 = .ok (.getfield 25, 3) := by decide +kernel
theorem dX2_offer_123 : decode cX2_offer 123 = .ok (.iload_n 3, 1) := by decide +kernel
theorem dX2_offer_124 : decode cX2_offer 124 = .ok (.invokestatic 150, 3) := by decide +kernel
theorem dX2_offer_127 : decode cX2_offer 127 = .ok (.istore 8, 2) := by decide +kernel
theorem dX2_offer_129 : decode cX2_offer 129 = .ok (.iload 8, 2) := by decide +kernel
theorem dX2_offer_131 : decode cX2_offer 131 = .ok (.ifCond .eq 17, 3) := by decide +kernel
theorem dX2_offer_134 : decode cX2_offer 134 = .ok (.aload_n 0, 1) := by decide +kernel
theorem dX2_offer_135 : decode cX2_offer 135 = .ok (.getfield 12, 3) := by decide +kernel
theorem dX2_offer_138 : decode cX2_offer 138 = .ok (.iload 7, 2) := by decide +kernel
theorem dX2_offer_140 : decode cX2_offer 140 = .ok (.iconst 3, 1) := by decide +kernel
theorem dX2_offer_141 : decode cX2_offer 141 = .ok (.invokevirtual 189, 3) := by decide +kernel
theorem dX2_offer_144 : decode cX2_offer 144 = .ok (.iload_n 1, 1) := by decide +kernel
theorem dX2_offer_145 : decode cX2_offer 145 = .ok (.if_icmp .ne 32, 3) := by decide +kernel
theorem dX2_offer_148 : decode cX2_offer 148 = .ok (.iload 5, 2) := by decide +kernel
theorem dX2_offer_150 : decode cX2_offer 150 = .ok (.iload 7, 2) := by decide +kernel
theorem dX2_offer_152 : decode cX2_offer 152 = .ok (.invokestatic 120, 3) := by decide +kernel
theorem dX2_offer_155 : decode cX2_offer 155 = .ok (.ior, 1) := by decide +kernel
theorem dX2_offer_156 : decode cX2_offer 156 = .ok (.istore 5, 2) := by decide +kernel
theorem dX2_offer_158 : decode cX2_offer 158 = .ok (.iload 6, 2) := by decide +kernel
theorem dX2_offer_160 : decode cX2_offer 160 = .ok (.iload 8, 2) := by decide +kernel
theorem dX2_offer_162 : decode cX2_offer 162 = .ok (.ifCond .eq 11, 3) := by decide +kernel
theorem dX2_offer_165 : decode cX2_offer 165 = .ok (.iload 7, 2) := by decide +kernel
theorem dX2_offer_167 : decode cX2_offer 167 = .ok (.invokestatic 120, 3) := by decide +kernel
theorem dX2_offer_170 : decode cX2_offer 170 = .ok (.goto 4, 3) := by decide +kernel
theorem dX2_offer_173 : decode cX2_offer 173 = .ok (.iconst 0, 1) := by decide +kernel
theorem dX2_offer_174 : decode cX2_offer 174 = .ok (.ior, 1) := by decide +kernel
theorem dX2_offer_175 : decode cX2_offer 175 = .ok (.istore 6, 2) := by decide +kernel
theorem dX2_offer_177 : decode cX2_offer 177 = .ok (.iinc 7 1, 3) := by decide +kernel
theorem dX2_offer_180 : decode cX2_offer 180 = .ok (.goto (-93), 3) := by decide +kernel
theorem dX2_offer_183 : decode cX2_offer 183 = .ok (.iload 5, 2) := by decide +kernel
theorem dX2_offer_185 : decode cX2_offer 185 = .ok (.ifCond .eq 34, 3) := by decide +kernel
theorem dX2_offer_188 : decode cX2_offer 188 = .ok (.aload_n 0, 1) := by decide +kernel
theorem dX2_offer_189 : decode cX2_offer 189 = .ok (.getfield 12, 3) := by decide +kernel
theorem dX2_offer_192 : decode cX2_offer 192 = .ok (.iload_n 1, 1) := by decide +kernel
theorem dX2_offer_193 : decode cX2_offer 193 = .ok (.iconst 4, 1) := by decide +kernel
theorem dX2_offer_194 : decode cX2_offer 194 = .ok (.invokevirtual 189, 3) := by decide +kernel
theorem dX2_offer_197 : decode cX2_offer 197 = .ok (.ifCond .ne 22, 3) := by decide +kernel
theorem dX2_offer_200 : decode cX2_offer 200 = .ok (.aload_n 0, 1) := by decide +kernel
theorem dX2_offer_201 : decode cX2_offer 201 = .ok (.getfield 12, 3) := by decide +kernel
theorem dX2_offer_204 : decode cX2_offer 204 = .ok (.dup, 1) := by decide +kernel
theorem dX2_offer_205 : decode cX2_offer 205 = .ok (.getfield 38, 3) := by decide +kernel
theorem dX2_offer_208 : decode cX2_offer 208 = .ok (.iload_n 1, 1) := by decide +kernel
theorem dX2_offer_209 : decode cX2_offer 209 = .ok (.invokestatic 120, 3) := by decide +kernel
theorem dX2_offer_212 : decode cX2_offer 212 = .ok (.ior, 1) := by decide +kernel
theorem dX2_offer_213 : decode cX2_offer 213 = .ok (.putfield 38, 3) := by decide +kernel
theorem dX2_offer_216 : decode cX2_offer 216 = .ok (.goto 30, 3) := by decide +kernel
theorem dX2_offer_219 : decode cX2_offer 219 = .ok (.aload_n 0, 1) := by decide +kernel
theorem dX2_offer_220 : decode cX2_offer 220 = .ok (.getfield 12, 3) := by decide +kernel
theorem dX2_offer_223 : decode cX2_offer 223 = .ok (.dup, 1) := by decide +kernel
theorem dX2_offer_224 : decode cX2_offer 224 = .ok (.getfield 35, 3) := by decide +kernel
theorem dX2_offer_227 : decode cX2_offer 227 = .ok (.iload 6, 2) := by decide +kernel
theorem dX2_offer_229 : decode cX2_offer 229 = .ok (.ior, 1) := by decide +kernel
theorem dX2_offer_230 : decode cX2_offer 230 = .ok (.putfield 35, 3) := by decide +kernel
theorem dX2_offer_233 : decode cX2_offer 233 = .ok (.aload_n 0, 1) := by decide +kernel
theorem dX2_offer_234 : decode cX2_offer 234 = .ok (.dup, 1) := by decide +kernel
theorem dX2_offer_235 : decode cX2_offer 235 = .ok (.getfield 31, 3) := by decide +kernel
theorem dX2_offer_238 : decode cX2_offer 238 = .ok (.iload_n 1, 1) := by decide +kernel
theorem dX2_offer_239 : decode cX2_offer 239 = .ok (.invokestatic 120, 3) := by decide +kernel
theorem dX2_offer_242 : decode cX2_offer 242 = .ok (.ior, 1) := by decide +kernel
theorem dX2_offer_243 : decode cX2_offer 243 = .ok (.putfield 31, 3) := by decide +kernel
theorem dX2_offer_246 : decode cX2_offer 246 = .ok (.return_, 1) := by decide +kernel
set_option maxRecDepth 20000 in
theorem ggX2_sent_X0_bend : GoodIn wsX2_sent wsX0_bend := goodIn_r _ [7, 8, 30, 31, 32, 33, 34, 35, 36, 37, 38, 39, 40, 41] (by decide +kernel) (by decide +kernel)
set_option maxRecDepth 20000 in
theorem gX2_sent_X0_bend : GoodIn wsX2_sent (wsV RX2 189 RX0 yX0_bend wsX0_bend) := goodIn_app (goodIn_of _ (by decide +kernel)) ggX2_sent_X0_bend
set_option maxRecDepth 20000 in
theorem ggX2_sent_X2_polynomialAt : GoodIn wsX2_sent wsX2_polynomialAt := goodIn_r _ [12, 13, 14, 15, 16, 17, 18, 19, 20, 21, 22, 23] (by decide +kernel) (by decide +kernel)
set_option maxRecDepth 20000 in
theorem gX2_sent_X2_polynomialAt : GoodIn wsX2_sent (va_wsS RX2 109 yX2_polynomialAt wsX2_polynomialAt) := goodIn_app (goodIn_of _ (by decide +kernel)) ggX2_sent_X2_polynomialAt
set_option maxRecDepth 20000 in
theorem ggX2_sent_X5_plus : GoodIn wsX2_sent wsX5_plus := goodIn_r _ [23] (by decide +kernel) (by decide +kernel)
set_option maxRecDepth 20000 in
theorem gX2_sent_X5_plus : GoodIn wsX2_sent (va_wsS RX2 192 yX5_plus wsX5_plus) := goodIn_app (goodIn_of _ (by decide +kernel)) ggX2_sent_X5_plus
theorem dX2_sent_0 : decode cX2_sent 0 = .ok (.aload_n 0, 1) := by decide +kernel
theorem dX2_sent_1 : decode cX2_sent 1 = .ok (.getfield 12, 3) := by decide +kernel
theorem dX2_sent_4 : decode cX2_sent 4 = .ok (.iload_n 1, 1) := by decide +kernel
theorem dX2_sent_5 : decode cX2_sent 5 = .ok (.iconst 2, 1) := by decide +kernel
theorem dX2_sent_6 : decode cX2_sent 6 = .ok (.invokevirtual 189, 3) := by decide +kernel
theorem dX2_sent_9 : decode cX2_sent 9 = .ok (.iload_n 2, 1) := by decide +kernel
theorem dX2_sent_10 : decode cX2_sent 10 = .ok (.if_icmp .ne 15, 3) := by decide +kernel
theorem dX2_sent_13 : decode cX2_sent 13 = .ok (.aload_n 0, 1) := by decide +kernel
theorem dX2_sent_14 : decode cX2_sent 14 = .ok (.getfield 12, 3) := by decide +kernel
theorem dX2_sent_17 : decode cX2_sent 17 = .ok (.iload_n 1, 1) := by decide +kernel
theorem dX2_sent_18 : decode cX2_sent 18 = .ok (.iconst 1, 1) := by decide +kernel
theorem dX2_sent_19 : decode cX2_sent 19 = .ok (.invokevirtual 189, 3) := by decide +kernel
theorem dX2_sent_22 : decode cX2_sent 22 = .ok (.goto 4, 3) := by decide +kernel
theorem dX2_sent_25 : decode cX2_sent 25 = .ok (.iconst 0, 1) := by decide +kernel
theorem dX2_sent_26 : decode cX2_sent 26 = .ok (.istore 4, 2) := by decide +kernel
theorem dX2_sent_28 : decode cX2_sent 28 = .ok (.aload_n 0, 1) := by decide +kernel
theorem dX2_sent_29 : decode cX2_sent 29 = .ok (.getfield 22, 3) := by decide +kernel
theorem dX2_sent_32 : decode cX2_sent 32 = .ok (.iload_n 1, 1) := by decide +kernel
theorem dX2_sent_33 : decode cX2_sent 33 = .ok (.iload_n 3, 1) := by decide +kernel
theorem dX2_sent_34 : decode cX2_sent 34 = .ok (.iload_n 2, 1) := by decide +kernel
theorem dX2_sent_35 : decode cX2_sent 35 = .ok (.invokestatic 109, 3) := by decide +kernel
theorem dX2_sent_38 : decode cX2_sent 38 = .ok (.iload 4, 2) := by decide +kernel
theorem dX2_sent_40 : decode cX2_sent 40 = .ok (.invokestatic 192, 3) := by decide +kernel
theorem dX2_sent_43 : decode cX2_sent 43 = .ok (.ireturn, 1) := by decide +kernel
set_option maxRecDepth 20000 in
theorem ggX2_pourTaken_X4_has : GoodIn wsX2_pourTaken wsX4_has := goodIn_r _ [5] (by decide +kernel) (by decide +kernel)
set_option maxRecDepth 20000 in
theorem gX2_pourTaken_X4_has : GoodIn wsX2_pourTaken (va_wsS RX2 130 yX4_has wsX4_has) := goodIn_app (goodIn_of _ (by decide +kernel)) ggX2_pourTaken_X4_has
set_option maxRecDepth 20000 in
theorem ggX2_pourTaken_X2_pour : GoodIn wsX2_pourTaken wsX2_pour := goodIn_r _ [10, 11, 12, 13, 2, 3, 4, 5, 14, 15, 9, 16, 17, 18, 19, 20, 21, 22, 23, 24, 25, 26, 27, 28, 29, 30, 31, 32, 33, 34, 35, 36, 37, 38, 39, 40, 41, 42, 43, 44, 45, 46, 47, 48, 49, 50, 51, 52, 53, 54, 55] (by decide +kernel) (by decide +kernel)
set_option maxRecDepth 20000 in
theorem gX2_pourTaken_X2_pour : GoodIn wsX2_pourTaken (wsV RX2 195 RX2 yX2_pour wsX2_pour) := goodIn_app (goodIn_of _ (by decide +kernel)) ggX2_pourTaken_X2_pour
theorem dX2_pourTaken_0 : decode cX2_pourTaken 0 = .ok (.iconst 1, 1) := by decide +kernel
theorem dX2_pourTaken_1 : decode cX2_pourTaken 1 = .ok (.istore_n 2, 1) := by decide +kernel
theorem dX2_pourTaken_2 : decode cX2_pourTaken 2 = .ok (.iload_n 2, 1) := by decide +kernel
theorem dX2_pourTaken_3 : decode cX2_pourTaken 3 = .ok (.bipush 7, 2) := by decide +kernel
theorem dX2_pourTaken_5 : decode cX2_pourTaken 5 = .ok (.if_icmp .gt 26, 3) := by decide +kernel
theorem dX2_pourTaken_8 : decode cX2_pourTaken 8 = .ok (.aload_n 0, 1) := by decide +kernel
theorem dX2_pourTaken_9 : decode cX2_pourTaken 9 = .ok (.getfield 31, 3) := by decide +kernel
theorem dX2_pourTaken_12 : decode cX2_pourTaken 12 = .ok (.iload_n 2, 1) := by decide +kernel
theorem dX2_pourTaken_13 : decode cX2_pourTaken 13 = .ok (.invokestatic 130, 3) := by decide +kernel
theorem dX2_pourTaken_16 : decode cX2_pourTaken 16 = .ok (.ifCond .eq 9, 3) := by decide +kernel
theorem dX2_pourTaken_19 : decode cX2_pourTaken 19 = .ok (.aload_n 0, 1) := by decide +kernel
theorem dX2_pourTaken_20 : decode cX2_pourTaken 20 = .ok (.iload_n 2, 1) := by decide +kernel
theorem dX2_pourTaken_21 : decode cX2_pourTaken 21 = .ok (.iload_n 1, 1) := by decide +kernel
theorem dX2_pourTaken_22 : decode cX2_pourTaken 22 = .ok (.invokevirtual 195, 3) := by decide +kernel
theorem dX2_pourTaken_25 : decode cX2_pourTaken 25 = .ok (.iinc 2 1, 3) := by decide +kernel
theorem dX2_pourTaken_28 : decode cX2_pourTaken 28 = .ok (.goto (-26), 3) := by decide +kernel
theorem dX2_pourTaken_31 : decode cX2_pourTaken 31 = .ok (.return_, 1) := by decide +kernel
set_option maxRecDepth 20000 in
theorem ggX2_pour_X4_has : GoodIn wsX2_pour wsX4_has := goodIn_r _ [7] (by decide +kernel) (by decide +kernel)
set_option maxRecDepth 20000 in
theorem gX2_pour_X4_has : GoodIn wsX2_pour (va_wsS RX2 130 yX4_has wsX4_has) := goodIn_app (goodIn_of _ (by decide +kernel)) ggX2_pour_X4_has
set_option maxRecDepth 20000 in
theorem ggX2_pour_X2_polynomialAt : GoodIn wsX2_pour wsX2_polynomialAt := goodIn_r _ [11, 12, 13, 14, 15, 16, 17, 18, 19, 20, 21, 22] (by decide +kernel) (by decide +kernel)
set_option maxRecDepth 20000 in
theorem gX2_pour_X2_polynomialAt : GoodIn wsX2_pour (va_wsS RX2 109 yX2_polynomialAt wsX2_polynomialAt) := goodIn_app (goodIn_of _ (by decide +kernel)) ggX2_pour_X2_polynomialAt
set_option maxRecDepth 20000 in
theorem ggX2_pour_X5_times : GoodIn wsX2_pour wsX5_times := goodIn_r _ [19] (by decide +kernel) (by decide +kernel)
set_option maxRecDepth 20000 in
theorem gX2_pour_X5_times : GoodIn wsX2_pour (va_wsS RX2 199 yX5_times wsX5_times) := goodIn_app (goodIn_of _ (by decide +kernel)) ggX2_pour_X5_times
set_option maxRecDepth 20000 in
theorem ggX2_pour_X5_plus : GoodIn wsX2_pour wsX5_plus := goodIn_r _ [22] (by decide +kernel) (by decide +kernel)
set_option maxRecDepth 20000 in
theorem gX2_pour_X5_plus : GoodIn wsX2_pour (va_wsS RX2 192 yX5_plus wsX5_plus) := goodIn_app (goodIn_of _ (by decide +kernel)) ggX2_pour_X5_plus
set_option maxRecDepth 20000 in
theorem ggX2_pour_X5_sealOf : GoodIn wsX2_pour wsX5_sealOf := goodIn_r _ [25, 26, 27, 18, 28] (by decide +kernel) (by decide +kernel)
set_option maxRecDepth 20000 in
theorem gX2_pour_X5_sealOf : GoodIn wsX2_pour (va_wsS RX2 101 yX5_sealOf wsX5_sealOf) := goodIn_app (goodIn_of _ (by decide +kernel)) ggX2_pour_X5_sealOf
set_option maxRecDepth 20000 in
theorem ggX2_pour_X5_raised : GoodIn wsX2_pour wsX5_raised := goodIn_r _ [28] (by decide +kernel) (by decide +kernel)
set_option maxRecDepth 20000 in
theorem gX2_pour_X5_raised : GoodIn wsX2_pour (va_wsS RX2 202 yX5_raised wsX5_raised) := goodIn_app (goodIn_of _ (by decide +kernel)) ggX2_pour_X5_raised
set_option maxRecDepth 20000 in
theorem ggX2_pour_X5_joined : GoodIn wsX2_pour wsX5_joined := goodIn_r _ [32] (by decide +kernel) (by decide +kernel)
set_option maxRecDepth 20000 in
theorem gX2_pour_X5_joined : GoodIn wsX2_pour (va_wsS RX2 205 yX5_joined wsX5_joined) := goodIn_app (goodIn_of _ (by decide +kernel)) ggX2_pour_X5_joined
theorem dX2_pour_0 : decode cX2_pour 0 = .ok (.iconst 1, 1) := by decide +kernel
theorem dX2_pour_1 : decode cX2_pour 1 = .ok (.istore_n 3, 1) := by decide +kernel
theorem dX2_pour_2 : decode cX2_pour 2 = .ok (.iload_n 3, 1) := by decide +kernel
theorem dX2_pour_3 : decode cX2_pour 3 = .ok (.bipush 7, 2) := by decide +kernel
theorem dX2_pour_5 : decode cX2_pour 5 = .ok (.if_icmp .gt 67, 3) := by decide +kernel
theorem dX2_pour_8 : decode cX2_pour 8 = .ok (.aload_n 0, 1) := by decide +kernel
theorem dX2_pour_9 : decode cX2_pour 9 = .ok (.getfield 12, 3) := by decide +kernel
theorem dX2_pour_12 : decode cX2_pour 12 = .ok (.getfield 113, 3) := by decide +kernel
theorem dX2_pour_15 : decode cX2_pour 15 = .ok (.iload_n 3, 1) := by decide +kernel
theorem dX2_pour_16 : decode cX2_pour 16 = .ok (.invokestatic 130, 3) := by decide +kernel
theorem dX2_pour_19 : decode cX2_pour 19 = .ok (.ifCond .eq 47, 3) := by decide +kernel
theorem dX2_pour_22 : decode cX2_pour 22 = .ok (.aload_n 0, 1) := by decide +kernel
theorem dX2_pour_23 : decode cX2_pour 23 = .ok (.getfield 28, 3) := by decide +kernel
theorem dX2_pour_26 : decode cX2_pour 26 = .ok (.iload_n 1, 1) := by decide +kernel
theorem dX2_pour_27 : decode cX2_pour 27 = .ok (.iaload, 1) := by decide +kernel
theorem dX2_pour_28 : decode cX2_pour 28 = .ok (.aload_n 0, 1) := by decide +kernel
theorem dX2_pour_29 : decode cX2_pour 29 = .ok (.getfield 22, 3) := by decide +kernel
theorem dX2_pour_32 : decode cX2_pour 32 = .ok (.iload_n 1, 1) := by decide +kernel
theorem dX2_pour_33 : decode cX2_pour 33 = .ok (.iload_n 2, 1) := by decide +kernel
theorem dX2_pour_34 : decode cX2_pour 34 = .ok (.iload_n 3, 1) := by decide +kernel
theorem dX2_pour_35 : decode cX2_pour 35 = .ok (.invokestatic 109, 3) := by decide +kernel
theorem dX2_pour_38 : decode cX2_pour 38 = .ok (.invokestatic 199, 3) := by decide +kernel
theorem dX2_pour_41 : decode cX2_pour 41 = .ok (.istore 4, 2) := by decide +kernel
theorem dX2_pour_43 : decode cX2_pour 43 = .ok (.aload_n 0, 1) := by decide +kernel
theorem dX2_pour_44 : decode cX2_pour 44 = .ok (.getfield 12, 3) := by decide +kernel
theorem dX2_pour_47 : decode cX2_pour 47 = .ok (.getfield 106, 3) := by decide +kernel
theorem dX2_pour_50 : decode cX2_pour 50 = .ok (.iload_n 3, 1) := by decide +kernel
theorem dX2_pour_51 : decode cX2_pour 51 = .ok (.aload_n 0, 1) := by decide +kernel
theorem dX2_pour_52 : decode cX2_pour 52 = .ok (.getfield 12, 3) := by decide +kernel
theorem dX2_pour_55 : decode cX2_pour 55 = .ok (.getfield 106, 3) := by decide +kernel
theorem dX2_pour_58 : decode cX2_pour 58 = .ok (.iload_n 3, 1) := by decide +kernel
theorem dX2_pour_59 : decode cX2_pour 59 = .ok (.iaload, 1) := by decide +kernel
theorem dX2_pour_60 : decode cX2_pour 60 = .ok (.iload 4, 2) := by decide +kernel
theorem dX2_pour_62 : decode cX2_pour 62 = .ok (.invokestatic 192, 3) := by decide +kernel
theorem dX2_pour_65 : decode cX2_pour 65 = .ok (.iastore, 1) := by decide +kernel
theorem dX2_pour_66 : decode cX2_pour 66 = .ok (.iinc 3 1, 3) := by decide +kernel
theorem dX2_pour_69 : decode cX2_pour 69 = .ok (.goto (-67), 3) := by decide +kernel
theorem dX2_pour_72 : decode cX2_pour 72 = .ok (.iconst 0, 1) := by decide +kernel
theorem dX2_pour_73 : decode cX2_pour 73 = .ok (.istore_n 3, 1) := by decide +kernel
theorem dX2_pour_74 : decode cX2_pour 74 = .ok (.iload_n 3, 1) := by decide +kernel
theorem dX2_pour_75 : decode cX2_pour 75 = .ok (.iload_n 2, 1) := by decide +kernel
theorem dX2_pour_76 : decode cX2_pour 76 = .ok (.if_icmp .ge 61, 3) := by decide +kernel
theorem dX2_pour_79 : decode cX2_pour 79 = .ok (.iload_n 3, 1) := by decide +kernel
theorem dX2_pour_80 : decode cX2_pour 80 = .ok (.iconst 5, 1) := by decide +kernel
theorem dX2_pour_81 : decode cX2_pour 81 = .ok (.if_icmp .ge 56, 3) := by decide +kernel
theorem dX2_pour_84 : decode cX2_pour 84 = .ok (.aload_n 0, 1) := by decide +kernel
theorem dX2_pour_85 : decode cX2_pour 85 = .ok (.getfield 22, 3) := by decide +kernel
theorem dX2_pour_88 : decode cX2_pour 88 = .ok (.iload_n 1, 1) := by decide +kernel
theorem dX2_pour_89 : decode cX2_pour 89 = .ok (.iconst 5, 1) := by decide +kernel
theorem dX2_pour_90 : decode cX2_pour 90 = .ok (.imul, 1) := by decide +kernel
theorem dX2_pour_91 : decode cX2_pour 91 = .ok (.iload_n 3, 1) := by decide +kernel
theorem dX2_pour_92 : decode cX2_pour 92 = .ok (.iadd, 1) := by decide +kernel
theorem dX2_pour_93 : decode cX2_pour 93 = .ok (.iaload, 1) := by decide +kernel
theorem dX2_pour_94 : decode cX2_pour 94 = .ok (.invokestatic 101, 3) := by decide +kernel
theorem dX2_pour_97 : decode cX2_pour 97 = .ok (.aload_n 0, 1) := by decide +kernel
theorem dX2_pour_98 : decode cX2_pour 98 = .ok (.getfield 28, 3) := by decide +kernel
theorem dX2_pour_101 : decode cX2_pour 101 = .ok (.iload_n 1, 1) := by decide +kernel
theorem dX2_pour_102 : decode cX2_pour 102 = .ok (.iaload, 1) := by decide +kernel
theorem dX2_pour_103 : decode cX2_pour 103 = .ok (.invokestatic 202, 3) := by decide +kernel
theorem dX2_pour_106 : decode cX2_pour 106 = .ok (.istore 4, 2) := by decide +kernel
theorem dX2_pour_108 : decode cX2_pour 108 = .ok (.aload_n 0, 1) := by decide +kernel
theorem dX2_pour_109 : decode cX2_pour 109 = .ok (.getfield 12, 3) := by decide +kernel
theorem dX2_pour_112 : decode cX2_pour 112 = .ok (.getfield 95, 3) := by decide +kernel
theorem dX2_pour_115 : decode cX2_pour 115 = .ok (.iload_n 3, 1) := by decide +kernel
theorem dX2_pour_116 : decode cX2_pour 116 = .ok (.aload_n 0, 1) := by decide +kernel
theorem dX2_pour_117 : decode cX2_pour 117 = .ok (.getfield 12, 3) := by decide +kernel
theorem dX2_pour_120 : decode cX2_pour 120 = .ok (.getfield 95, 3) := by decide +kernel
theorem dX2_pour_123 : decode cX2_pour 123 = .ok (.iload_n 3, 1) := by decide +kernel
theorem dX2_pour_124 : decode cX2_pour 124 = .ok (.iaload, 1) := by decide +kernel
theorem dX2_pour_125 : decode cX2_pour 125 = .ok (.iload 4, 2) := by decide +kernel
theorem dX2_pour_127 : decode cX2_pour 127 = .ok (.invokestatic 205, 3) := by decide +kernel
theorem dX2_pour_130 : decode cX2_pour 130 = .ok (.iastore, 1) := by decide +kernel
theorem dX2_pour_131 : decode cX2_pour 131 = .ok (.iinc 3 1, 3) := by decide +kernel
theorem dX2_pour_134 : decode cX2_pour 134 = .ok (.goto (-60), 3) := by decide +kernel
theorem dX2_pour_137 : decode cX2_pour 137 = .ok (.return_, 1) := by decide +kernel
set_option maxRecDepth 20000 in
theorem ggX2_closeEpoch_X0_beginEpoch : GoodIn wsX2_closeEpoch wsX0_beginEpoch := goodIn_r _ [6, 7, 8, 9, 10, 11, 12, 5, 13, 27, 28, 29, 30, 31, 32, 33, 34, 35, 36, 37, 38] (by decide +kernel) (by decide +kernel)
set_option maxRecDepth 20000 in
theorem gX2_closeEpoch_X0_beginEpoch : GoodIn wsX2_closeEpoch (wsV RX2 116 RX0 yX0_beginEpoch wsX0_beginEpoch) := goodIn_app (goodIn_of _ (by decide +kernel)) ggX2_closeEpoch_X0_beginEpoch
set_option maxRecDepth 20000 in
theorem ggX2_closeEpoch_J6_bitCount_0f7a4 : GoodIn wsX2_closeEpoch wsJ6_bitCount_0f7a4 := goodIn_r _ [17, 18, 19, 20] (by decide +kernel) (by decide +kernel)
set_option maxRecDepth 20000 in
theorem gX2_closeEpoch_J6_bitCount_0f7a4 : GoodIn wsX2_closeEpoch (va_wsS RX2 125 yJ6_bitCount_0f7a4 wsJ6_bitCount_0f7a4) := goodIn_app (goodIn_of _ (by decide +kernel)) ggX2_closeEpoch_J6_bitCount_0f7a4
theorem dX2_closeEpoch_0 : decode cX2_closeEpoch 0 = .ok (.aload_n 0, 1) := by decide +kernel
theorem dX2_closeEpoch_1 : decode cX2_closeEpoch 1 = .ok (.getfield 12, 3) := by decide +kernel
theorem dX2_closeEpoch_4 : decode cX2_closeEpoch 4 = .ok (.iload_n 1, 1) := by decide +kernel
theorem dX2_closeEpoch_5 : decode cX2_closeEpoch 5 = .ok (.invokevirtual 116, 3) := by decide +kernel
theorem dX2_closeEpoch_8 : decode cX2_closeEpoch 8 = .ok (.aload_n 0, 1) := by decide +kernel
theorem dX2_closeEpoch_9 : decode cX2_closeEpoch 9 = .ok (.getfield 12, 3) := by decide +kernel
theorem dX2_closeEpoch_12 : decode cX2_closeEpoch 12 = .ok (.dup, 1) := by decide +kernel
theorem dX2_closeEpoch_13 : decode cX2_closeEpoch 13 = .ok (.getfield 113, 3) := by decide +kernel
theorem dX2_closeEpoch_16 : decode cX2_closeEpoch 16 = .ok (.aload_n 0, 1) := by decide +kernel
theorem dX2_closeEpoch_17 : decode cX2_closeEpoch 17 = .ok (.getfield 12, 3) := by decide +kernel
theorem dX2_closeEpoch_20 : decode cX2_closeEpoch 20 = .ok (.getfield 38, 3) := by decide +kernel
theorem dX2_closeEpoch_23 : decode cX2_closeEpoch 23 = .ok (.iconst (-1), 1) := by decide +kernel
theorem dX2_closeEpoch_24 : decode cX2_closeEpoch 24 = .ok (.ixor, 1) := by decide +kernel
theorem dX2_closeEpoch_25 : decode cX2_closeEpoch 25 = .ok (.iand, 1) := by decide +kernel
theorem dX2_closeEpoch_26 : decode cX2_closeEpoch 26 = .ok (.putfield 113, 3) := by decide +kernel
theorem dX2_closeEpoch_29 : decode cX2_closeEpoch 29 = .ok (.aload_n 0, 1) := by decide +kernel
theorem dX2_closeEpoch_30 : decode cX2_closeEpoch 30 = .ok (.getfield 12, 3) := by decide +kernel
theorem dX2_closeEpoch_33 : decode cX2_closeEpoch 33 = .ok (.getfield 113, 3) := by decide +kernel
theorem dX2_closeEpoch_36 : decode cX2_closeEpoch 36 = .ok (.invokestatic 125, 3) := by decide +kernel
theorem dX2_closeEpoch_39 : decode cX2_closeEpoch 39 = .ok (.ireturn, 1) := by decide +kernel
set_option maxRecDepth 20000 in
theorem ggX2_polynomialAt_X5_times : GoodIn wsX2_polynomialAt wsX5_times := goodIn_r _ [8] (by decide +kernel) (by decide +kernel)
set_option maxRecDepth 20000 in
theorem gX2_polynomialAt_X5_times : GoodIn wsX2_polynomialAt (va_wsS RX2 199 yX5_times wsX5_times) := goodIn_app (goodIn_of _ (by decide +kernel)) ggX2_polynomialAt_X5_times
set_option maxRecDepth 20000 in
theorem ggX2_polynomialAt_X5_plus : GoodIn wsX2_polynomialAt wsX5_plus := goodIn_r _ [11] (by decide +kernel) (by decide +kernel)
set_option maxRecDepth 20000 in
theorem gX2_polynomialAt_X5_plus : GoodIn wsX2_polynomialAt (va_wsS RX2 192 yX5_plus wsX5_plus) := goodIn_app (goodIn_of _ (by decide +kernel)) ggX2_polynomialAt_X5_plus
theorem dX2_polynomialAt_0 : decode cX2_polynomialAt 0 = .ok (.iconst 0, 1) := by decide +kernel
theorem dX2_polynomialAt_1 : decode cX2_polynomialAt 1 = .ok (.istore 4, 2) := by decide +kernel
theorem dX2_polynomialAt_3 : decode cX2_polynomialAt 3 = .ok (.iload_n 2, 1) := by decide +kernel
theorem dX2_polynomialAt_4 : decode cX2_polynomialAt 4 = .ok (.iconst 5, 1) := by decide +kernel
theorem dX2_polynomialAt_5 : decode cX2_polynomialAt 5 = .ok (.invokestatic 208, 3) := by decide +kernel
theorem dX2_polynomialAt_8 : decode cX2_polynomialAt 8 = .ok (.iconst 1, 1) := by decide +kernel
theorem dX2_polynomialAt_9 : decode cX2_polynomialAt 9 = .ok (.isub, 1) := by decide +kernel
theorem dX2_polynomialAt_10 : decode cX2_polynomialAt 10 = .ok (.istore 5, 2) := by decide +kernel
theorem dX2_polynomialAt_12 : decode cX2_polynomialAt 12 = .ok (.iload 5, 2) := by decide +kernel
theorem dX2_polynomialAt_14 : decode cX2_polynomialAt 14 = .ok (.ifCond .lt 52, 3) := by decide +kernel
theorem dX2_polynomialAt_17 : decode cX2_polynomialAt 17 = .ok (.iload_n 1, 1) := by decide +kernel
theorem dX2_polynomialAt_18 : decode cX2_polynomialAt 18 = .ok (.iconst 5, 1) := by decide +kernel
theorem dX2_polynomialAt_19 : decode cX2_polynomialAt 19 = .ok (.imul, 1) := by decide +kernel
theorem dX2_polynomialAt_20 : decode cX2_polynomialAt 20 = .ok (.iload 5, 2) := by decide +kernel
theorem dX2_polynomialAt_22 : decode cX2_polynomialAt 22 = .ok (.iadd, 1) := by decide +kernel
theorem dX2_polynomialAt_23 : decode cX2_polynomialAt 23 = .ok (.istore 6, 2) := by decide +kernel
theorem dX2_polynomialAt_25 : decode cX2_polynomialAt 25 = .ok (.iload 6, 2) := by decide +kernel
theorem dX2_polynomialAt_27 : decode cX2_polynomialAt 27 = .ok (.ifCond .lt 17, 3) := by decide +kernel
theorem dX2_polynomialAt_30 : decode cX2_polynomialAt 30 = .ok (.iload 6, 2) := by decide +kernel
theorem dX2_polynomialAt_32 : decode cX2_polynomialAt 32 = .ok (.aload_n 0, 1) := by decide +kernel
theorem dX2_polynomialAt_33 : decode cX2_polynomialAt 33 = .ok (.arraylength, 1) := by decide +kernel
theorem dX2_polynomialAt_34 : decode cX2_polynomialAt 34 = .ok (.if_icmp .ge 10, 3) := by decide +kernel
theorem dX2_polynomialAt_37 : decode cX2_polynomialAt 37 = .ok (.aload_n 0, 1) := by decide +kernel
theorem dX2_polynomialAt_38 : decode cX2_polynomialAt 38 = .ok (.iload 6, 2) := by decide +kernel
theorem dX2_polynomialAt_40 : decode cX2_polynomialAt 40 = .ok (.iaload, 1) := by decide +kernel
theorem dX2_polynomialAt_41 : decode cX2_polynomialAt 41 = .ok (.goto 4, 3) := by decide +kernel
theorem dX2_polynomialAt_44 : decode cX2_polynomialAt 44 = .ok (.iconst 0, 1) := by decide +kernel
theorem dX2_polynomialAt_45 : decode cX2_polynomialAt 45 = .ok (.istore 7, 2) := by decide +kernel
theorem dX2_polynomialAt_47 : decode cX2_polynomialAt 47 = .ok (.iload 4, 2) := by decide +kernel
theorem dX2_polynomialAt_49 : decode cX2_polynomialAt 49 = .ok (.iload_n 3, 1) := by decide +kernel
theorem dX2_polynomialAt_50 : decode cX2_polynomialAt 50 = .ok (.invokestatic 199, 3) := by decide +kernel
theorem dX2_polynomialAt_53 : decode cX2_polynomialAt 53 = .ok (.iload 7, 2) := by decide +kernel
theorem dX2_polynomialAt_55 : decode cX2_polynomialAt 55 = .ok (.invokestatic 192, 3) := by decide +kernel
theorem dX2_polynomialAt_58 : decode cX2_polynomialAt 58 = .ok (.istore 4, 2) := by decide +kernel
theorem dX2_polynomialAt_60 : decode cX2_polynomialAt 60 = .ok (.iinc 5 (-1), 3) := by decide +kernel
theorem dX2_polynomialAt_63 : decode cX2_polynomialAt 63 = .ok (.goto (-51), 3) := by decide +kernel
theorem dX2_polynomialAt_66 : decode cX2_polynomialAt 66 = .ok (.iload 4, 2) := by decide +kernel
theorem dX2_polynomialAt_68 : decode cX2_polynomialAt 68 = .ok (.ireturn, 1) := by decide +kernel
set_option maxRecDepth 20000 in
theorem ggX2_opened_X1_victims : GoodIn wsX2_opened wsX1_victims := goodIn_r _ [7, 8, 9, 10, 11, 12, 13, 14, 72, 73, 74, 75] (by decide +kernel) (by decide +kernel)
set_option maxRecDepth 20000 in
theorem gX2_opened_X1_victims : GoodIn wsX2_opened (wsV RX2 213 RX1 yX1_victims wsX1_victims) := goodIn_app (goodIn_of _ (by decide +kernel)) ggX2_opened_X1_victims
set_option maxRecDepth 20000 in
theorem ggX2_opened_J6_bitCount_0f7a4 : GoodIn wsX2_opened wsJ6_bitCount_0f7a4 := goodIn_r _ [18, 19, 20, 21] (by decide +kernel) (by decide +kernel)
set_option maxRecDepth 20000 in
theorem gX2_opened_J6_bitCount_0f7a4 : GoodIn wsX2_opened (va_wsS RX2 125 yJ6_bitCount_0f7a4 wsJ6_bitCount_0f7a4) := goodIn_app (goodIn_of _ (by decide +kernel)) ggX2_opened_J6_bitCount_0f7a4
set_option maxRecDepth 20000 in
theorem ggX2_opened_X4_lowest : GoodIn wsX2_opened wsX4_lowest := goodIn_r _ [24, 25, 26, 13, 27, 28, 12, 14] (by decide +kernel) (by decide +kernel)
set_option maxRecDepth 20000 in
theorem gX2_opened_X4_lowest : GoodIn wsX2_opened (va_wsS RX2 140 yX4_lowest wsX4_lowest) := goodIn_app (goodIn_of _ (by decide +kernel)) ggX2_opened_X4_lowest
set_option maxRecDepth 20000 in
theorem ggX2_opened_X1_firstShare : GoodIn wsX2_opened wsX1_firstShare := goodIn_r _ [32, 8, 10, 9, 33, 72, 73, 74, 75] (by decide +kernel) (by decide +kernel)
set_option maxRecDepth 20000 in
theorem gX2_opened_X1_firstShare : GoodIn wsX2_opened (wsV RX2 216 RX1 yX1_firstShare wsX1_firstShare) := goodIn_app (goodIn_of _ (by decide +kernel)) ggX2_opened_X1_firstShare
set_option maxRecDepth 20000 in
theorem ggX2_opened_X5_weighed : GoodIn wsX2_opened wsX5_weighed := goodIn_r _ [37, 38, 26, 13, 27, 39, 40, 36, 41, 42, 43, 44, 45, 46, 47, 48, 49, 50, 51, 52, 53] (by decide +kernel) (by decide +kernel)
set_option maxRecDepth 20000 in
theorem gX2_opened_X5_weighed : GoodIn wsX2_opened (va_wsS RX2 143 yX5_weighed wsX5_weighed) := goodIn_app (goodIn_of _ (by decide +kernel)) ggX2_opened_X5_weighed
theorem dX2_opened_0 : decode cX2_opened 0 = .ok (.aload_n 0, 1) := by decide +kernel
theorem dX2_opened_1 : decode cX2_opened 1 = .ok (.getfield 12, 3) := by decide +kernel
theorem dX2_opened_4 : decode cX2_opened 4 = .ok (.getfield 87, 3) := by decide +kernel
theorem dX2_opened_7 : decode cX2_opened 7 = .ok (.iload_n 1, 1) := by decide +kernel
theorem dX2_opened_8 : decode cX2_opened 8 = .ok (.invokevirtual 213, 3) := by decide +kernel
theorem dX2_opened_11 : decode cX2_opened 11 = .ok (.istore_n 3, 1) := by decide +kernel
theorem dX2_opened_12 : decode cX2_opened 12 = .ok (.iload_n 3, 1) := by decide +kernel
theorem dX2_opened_13 : decode cX2_opened 13 = .ok (.invokestatic 125, 3) := by decide +kernel
theorem dX2_opened_16 : decode cX2_opened 16 = .ok (.iload_n 2, 1) := by decide +kernel
theorem dX2_opened_17 : decode cX2_opened 17 = .ok (.if_icmp .ge 6, 3) := by decide +kernel
theorem dX2_opened_20 : decode cX2_opened 20 = .ok (.bipush (-6), 2) := by decide +kernel
theorem dX2_opened_22 : decode cX2_opened 22 = .ok (.ireturn, 1) := by decide +kernel
theorem dX2_opened_23 : decode cX2_opened 23 = .ok (.iload_n 3, 1) := by decide +kernel
theorem dX2_opened_24 : decode cX2_opened 24 = .ok (.iload_n 2, 1) := by decide +kernel
theorem dX2_opened_25 : decode cX2_opened 25 = .ok (.invokestatic 140, 3) := by decide +kernel
theorem dX2_opened_28 : decode cX2_opened 28 = .ok (.istore 4, 2) := by decide +kernel
theorem dX2_opened_30 : decode cX2_opened 30 = .ok (.iconst 1, 1) := by decide +kernel
theorem dX2_opened_31 : decode cX2_opened 31 = .ok (.istore 5, 2) := by decide +kernel
theorem dX2_opened_33 : decode cX2_opened 33 = .ok (.iload 5, 2) := by decide +kernel
theorem dX2_opened_35 : decode cX2_opened 35 = .ok (.bipush 7, 2) := by decide +kernel
theorem dX2_opened_37 : decode cX2_opened 37 = .ok (.if_icmp .gt 29, 3) := by decide +kernel
theorem dX2_opened_40 : decode cX2_opened 40 = .ok (.aload_n 0, 1) := by decide +kernel
theorem dX2_opened_41 : decode cX2_opened 41 = .ok (.getfield 18, 3) := by decide +kernel
theorem dX2_opened_44 : decode cX2_opened 44 = .ok (.iload 5, 2) := by decide +kernel
theorem dX2_opened_46 : decode cX2_opened 46 = .ok (.aload_n 0, 1) := by decide +kernel
theorem dX2_opened_47 : decode cX2_opened 47 = .ok (.getfield 12, 3) := by decide +kernel
theorem dX2_opened_50 : decode cX2_opened 50 = .ok (.getfield 87, 3) := by decide +kernel
theorem dX2_opened_53 : decode cX2_opened 53 = .ok (.iload 5, 2) := by decide +kernel
theorem dX2_opened_55 : decode cX2_opened 55 = .ok (.iload_n 1, 1) := by decide +kernel
theorem dX2_opened_56 : decode cX2_opened 56 = .ok (.invokevirtual 216, 3) := by decide +kernel
theorem dX2_opened_59 : decode cX2_opened 59 = .ok (.iastore, 1) := by decide +kernel
theorem dX2_opened_60 : decode cX2_opened 60 = .ok (.iinc 5 1, 3) := by decide +kernel
theorem dX2_opened_63 : decode cX2_opened 63 = .ok (.goto (-30), 3) := by decide +kernel
theorem dX2_opened_66 : decode cX2_opened 66 = .ok (.aload_n 0, 1) := by decide +kernel
theorem dX2_opened_67 : decode cX2_opened 67 = .ok (.getfield 18, 3) := by decide +kernel
theorem dX2_opened_70 : decode cX2_opened 70 = .ok (.iload 4, 2) := by decide +kernel
theorem dX2_opened_72 : decode cX2_opened 72 = .ok (.iconst 0, 1) := by decide +kernel
theorem dX2_opened_73 : decode cX2_opened 73 = .ok (.invokestatic 143, 3) := by decide +kernel
theorem dX2_opened_76 : decode cX2_opened 76 = .ok (.ireturn, 1) := by decide +kernel
set_option maxRecDepth 20000 in
theorem ggX2_worldsLeft_X0_thresholdOf : GoodIn wsX2_worldsLeft wsX0_thresholdOf := goodIn_r _ [6, 7, 8, 9, 10, 5, 11, 12, 76, 77, 78, 79, 80, 81, 82, 83, 84, 85, 86, 87] (by decide +kernel) (by decide +kernel)
set_option maxRecDepth 20000 in
theorem gX2_worldsLeft_X0_thresholdOf : GoodIn wsX2_worldsLeft (wsV RX2 219 RX0 yX0_thresholdOf wsX0_thresholdOf) := goodIn_app (goodIn_of _ (by decide +kernel)) ggX2_worldsLeft_X0_thresholdOf
set_option maxRecDepth 20000 in
theorem ggX2_worldsLeft_X1_victims : GoodIn wsX2_worldsLeft wsX1_victims := goodIn_r _ [17, 18, 19, 20, 21, 22, 23, 24, 88, 89, 90, 91] (by decide +kernel) (by decide +kernel)
set_option maxRecDepth 20000 in
theorem gX2_worldsLeft_X1_victims : GoodIn wsX2_worldsLeft (wsV RX2 213 RX1 yX1_victims wsX1_victims) := goodIn_app (goodIn_of _ (by decide +kernel)) ggX2_worldsLeft_X1_victims
set_option maxRecDepth 20000 in
theorem ggX2_worldsLeft_J6_bitCount_0f7a4 : GoodIn wsX2_worldsLeft wsJ6_bitCount_0f7a4 := goodIn_r _ [28, 29, 30, 31] (by decide +kernel) (by decide +kernel)
set_option maxRecDepth 20000 in
theorem gX2_worldsLeft_J6_bitCount_0f7a4 : GoodIn wsX2_worldsLeft (va_wsS RX2 125 yJ6_bitCount_0f7a4 wsJ6_bitCount_0f7a4) := goodIn_app (goodIn_of _ (by decide +kernel)) ggX2_worldsLeft_J6_bitCount_0f7a4
set_option maxRecDepth 20000 in
theorem ggX2_worldsLeft_X2_opened : GoodIn wsX2_worldsLeft wsX2_opened := goodIn_r _ [36, 1, 37, 13, 14, 15, 16, 17, 18, 19, 20, 21, 22, 23, 24, 25, 26, 27, 28, 29, 30, 31, 38, 39, 40, 41, 42, 43, 44, 45, 46, 47, 48, 49, 50, 51, 52, 53, 54, 55, 56, 57, 58, 59, 60, 61, 62, 63, 64, 65, 66, 67, 68, 69, 70, 71, 72, 73, 74, 75, 76, 77, 78, 79, 80, 81, 82, 83, 84, 85, 86, 87, 88, 89, 90, 91] (by decide +kernel) (by decide +kernel)
set_option maxRecDepth 20000 in
theorem gX2_worldsLeft_X2_opened : GoodIn wsX2_worldsLeft (wsV RX2 222 RX2 yX2_opened wsX2_opened) := goodIn_app (goodIn_of _ (by decide +kernel)) ggX2_worldsLeft_X2_opened
theorem dX2_worldsLeft_0 : decode cX2_worldsLeft 0 = .ok (.aload_n 0, 1) := by decide +kernel
theorem dX2_worldsLeft_1 : decode cX2_worldsLeft 1 = .ok (.getfield 12, 3) := by decide +kernel
theorem dX2_worldsLeft_4 : decode cX2_worldsLeft 4 = .ok (.iload_n 1, 1) := by decide +kernel
theorem dX2_worldsLeft_5 : decode cX2_worldsLeft 5 = .ok (.invokevirtual 219, 3) := by decide +kernel
theorem dX2_worldsLeft_8 : decode cX2_worldsLeft 8 = .ok (.istore_n 3, 1) := by decide +kernel
theorem dX2_worldsLeft_9 : decode cX2_worldsLeft 9 = .ok (.aload_n 0, 1) := by decide +kernel
theorem dX2_worldsLeft_10 : decode cX2_worldsLeft 10 = .ok (.getfield 12, 3) := by decide +kernel
theorem dX2_worldsLeft_13 : decode cX2_worldsLeft 13 = .ok (.getfield 87, 3) := by decide +kernel
