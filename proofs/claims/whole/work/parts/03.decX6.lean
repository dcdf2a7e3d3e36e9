set_option maxRecDepth 20000 in
theorem ggX6_init_X2_init : GoodIn wsX6_init wsX2_init := goodIn_r _ [22, 23, 2, 3, 14, 24, 25, 26, 27, 28, 29, 30, 31, 32, 33, 42, 43, 44, 45, 46, 47, 48, 49, 66, 67, 68, 69] (by decide +kernel) (by decide +kernel)
set_option maxRecDepth 20000 in
theorem gX6_init_X2_init : GoodIn wsX6_init (wsX2_init) := ggX6_init_X2_init
set_option maxRecDepth 20000 in
theorem ggX6_init_X5_init : GoodIn wsX6_init wsX5_init := goodIn_r _ [35, 36, 2, 3, 14, 37, 57, 58, 59, 60, 61, 62] (by decide +kernel) (by decide +kernel)
set_option maxRecDepth 20000 in
theorem gX6_init_X5_init_n24 : GoodIn wsX6_init (wsX5_init) := ggX6_init_X5_init
set_option maxRecDepth 20000 in
theorem ggX6_init_X4_init : GoodIn wsX6_init wsX4_init := goodIn_r _ [39, 40, 2, 3, 14, 41, 63, 64, 65] (by decide +kernel) (by decide +kernel)
set_option maxRecDepth 20000 in
theorem gX6_init_X4_init_n39 : GoodIn wsX6_init (wsX4_init) := ggX6_init_X4_init
theorem dX6_init_0 : decode cX6_init 0 = .ok (.aload_n 0, 1) := by decide +kernel
theorem dX6_init_1 : decode cX6_init 1 = .ok (.invokespecial 1, 3) := by decide +kernel
theorem dX6_init_4 : decode cX6_init 4 = .ok (.aload_n 0, 1) := by decide +kernel
theorem dX6_init_5 : decode cX6_init 5 = .ok (.new 7, 3) := by decide +kernel
theorem dX6_init_8 : decode cX6_init 8 = .ok (.dup, 1) := by decide +kernel
theorem dX6_init_9 : decode cX6_init 9 = .ok (.invokespecial 9, 3) := by decide +kernel
theorem dX6_init_12 : decode cX6_init 12 = .ok (.putfield 10, 3) := by decide +kernel
theorem dX6_init_15 : decode cX6_init 15 = .ok (.aload_n 0, 1) := by decide +kernel
theorem dX6_init_16 : decode cX6_init 16 = .ok (.new 7, 3) := by decide +kernel
theorem dX6_init_19 : decode cX6_init 19 = .ok (.dup, 1) := by decide +kernel
theorem dX6_init_20 : decode cX6_init 20 = .ok (.invokespecial 9, 3) := by decide +kernel
theorem dX6_init_23 : decode cX6_init 23 = .ok (.putfield 16, 3) := by decide +kernel
theorem dX6_init_26 : decode cX6_init 26 = .ok (.aload_n 0, 1) := by decide +kernel
theorem dX6_init_27 : decode cX6_init 27 = .ok (.new 7, 3) := by decide +kernel
theorem dX6_init_30 : decode cX6_init 30 = .ok (.dup, 1) := by decide +kernel
theorem dX6_init_31 : decode cX6_init 31 = .ok (.invokespecial 9, 3) := by decide +kernel
theorem dX6_init_34 : decode cX6_init 34 = .ok (.putfield 19, 3) := by decide +kernel
theorem dX6_init_37 : decode cX6_init 37 = .ok (.aload_n 0, 1) := by decide +kernel
theorem dX6_init_38 : decode cX6_init 38 = .ok (.new 22, 3) := by decide +kernel
theorem dX6_init_41 : decode cX6_init 41 = .ok (.dup, 1) := by decide +kernel
theorem dX6_init_42 : decode cX6_init 42 = .ok (.invokespecial 24, 3) := by decide +kernel
theorem dX6_init_45 : decode cX6_init 45 = .ok (.putfield 25, 3) := by decide +kernel
theorem dX6_init_48 : decode cX6_init 48 = .ok (.aload_n 0, 1) := by decide +kernel
theorem dX6_init_49 : decode cX6_init 49 = .ok (.bipush 7, 2) := by decide +kernel
theorem dX6_init_51 : decode cX6_init 51 = .ok (.newarray .int, 2) := by decide +kernel
theorem dX6_init_53 : decode cX6_init 53 = .ok (.putfield 29, 3) := by decide +kernel
theorem dX6_init_56 : decode cX6_init 56 = .ok (.aload_n 0, 1) := by decide +kernel
theorem dX6_init_57 : decode cX6_init 57 = .ok (.iconst 4, 1) := by decide +kernel
theorem dX6_init_58 : decode cX6_init 58 = .ok (.anewarray 33, 3) := by decide +kernel
theorem dX6_init_61 : decode cX6_init 61 = .ok (.putfield 35, 3) := by decide +kernel
theorem dX6_init_64 : decode cX6_init 64 = .ok (.iconst 0, 1) := by decide +kernel
theorem dX6_init_65 : decode cX6_init 65 = .ok (.istore_n 1, 1) := by decide +kernel
theorem dX6_init_66 : decode cX6_init 66 = .ok (.iload_n 1, 1) := by decide +kernel
theorem dX6_init_67 : decode cX6_init 67 = .ok (.aload_n 0, 1) := by decide +kernel
theorem dX6_init_68 : decode cX6_init 68 = .ok (.getfield 35, 3) := by decide +kernel
theorem dX6_init_71 : decode cX6_init 71 = .ok (.arraylength, 1) := by decide +kernel
theorem dX6_init_72 : decode cX6_init 72 = .ok (.if_icmp .ge 22, 3) := by decide +kernel
theorem dX6_init_75 : decode cX6_init 75 = .ok (.aload_n 0, 1) := by decide +kernel
theorem dX6_init_76 : decode cX6_init 76 = .ok (.getfield 35, 3) := by decide +kernel
theorem dX6_init_79 : decode cX6_init 79 = .ok (.iload_n 1, 1) := by decide +kernel
theorem dX6_init_80 : decode cX6_init 80 = .ok (.new 33, 3) := by decide +kernel
theorem dX6_init_83 : decode cX6_init 83 = .ok (.dup, 1) := by decide +kernel
theorem dX6_init_84 : decode cX6_init 84 = .ok (.invokespecial 39, 3) := by decide +kernel
theorem dX6_init_87 : decode cX6_init 87 = .ok (.aastore, 1) := by decide +kernel
theorem dX6_init_88 : decode cX6_init 88 = .ok (.iinc 1 1, 3) := by decide +kernel
theorem dX6_init_91 : decode cX6_init 91 = .ok (.goto (-25), 3) := by decide +kernel
theorem dX6_init_94 : decode cX6_init 94 = .ok (.return_, 1) := by decide +kernel
set_option maxRecDepth 20000 in
theorem ggX6_ground_X6_isCell : GoodIn wsX6_ground wsX6_isCell := goodIn_r _ [5, 6, 7, 4, 8] (by decide +kernel) (by decide +kernel)
set_option maxRecDepth 20000 in
theorem gX6_ground_X6_isCell : GoodIn wsX6_ground (va_wsS RX6 40 yX6_isCell wsX6_isCell) := goodIn_app (goodIn_of _ (by decide +kernel)) ggX6_ground_X6_isCell
set_option maxRecDepth 20000 in
theorem ggX6_ground_X6_within : GoodIn wsX6_ground wsX6_within := goodIn_r _ [8] (by decide +kernel) (by decide +kernel)
set_option maxRecDepth 20000 in
theorem gX6_ground_X6_within : GoodIn wsX6_ground (va_wsS RX6 44 yX6_within wsX6_within) := goodIn_app (goodIn_of _ (by decide +kernel)) ggX6_ground_X6_within
set_option maxRecDepth 20000 in
theorem ggX6_ground_X6_finding : GoodIn wsX6_ground wsX6_finding := goodIn_r _ [12, 13, 14, 15, 16, 4, 17, 18, 19, 20, 36, 37, 38, 39, 40, 41, 42] (by decide +kernel) (by decide +kernel)
set_option maxRecDepth 20000 in
theorem gX6_ground_X6_finding : GoodIn wsX6_ground (wsV RX6 48 RX6 yX6_finding wsX6_finding) := goodIn_app (goodIn_of _ (by decide +kernel)) ggX6_ground_X6_finding
set_option maxRecDepth 20000 in
theorem ggX6_ground_X2_groundOf : GoodIn wsX6_ground wsX2_groundOf := goodIn_r _ [25, 26, 27, 28, 4, 29, 43, 44, 45, 46, 47, 48, 49, 50] (by decide +kernel) (by decide +kernel)
set_option maxRecDepth 20000 in
theorem gX6_ground_X2_groundOf : GoodIn wsX6_ground (wsV RX6 52 RX2 yX2_groundOf wsX2_groundOf) := goodIn_app (goodIn_of _ (by decide +kernel)) ggX6_ground_X2_groundOf
set_option maxRecDepth 20000 in
theorem ggX6_ground_X2_becomeGround : GoodIn wsX6_ground wsX2_becomeGround := goodIn_r _ [33, 26, 34, 27, 35, 28, 4, 29, 19, 20, 43, 44, 45, 46, 47, 48, 49, 50] (by decide +kernel) (by decide +kernel)
set_option maxRecDepth 20000 in
theorem gX6_ground_X2_becomeGround : GoodIn wsX6_ground (wsV RX6 55 RX2 yX2_becomeGround wsX2_becomeGround) := goodIn_app (goodIn_of _ (by decide +kernel)) ggX6_ground_X2_becomeGround
theorem dX6_ground_0 : decode cX6_ground 0 = .ok (.iload_n 1, 1) := by decide +kernel
theorem dX6_ground_1 : decode cX6_ground 1 = .ok (.invokestatic 40, 3) := by decide +kernel
theorem dX6_ground_4 : decode cX6_ground 4 = .ok (.ifCond .eq 12, 3) := by decide +kernel
theorem dX6_ground_7 : decode cX6_ground 7 = .ok (.iload_n 2, 1) := by decide +kernel
theorem dX6_ground_8 : decode cX6_ground 8 = .ok (.iconst 0, 1) := by decide +kernel
theorem dX6_ground_9 : decode cX6_ground 9 = .ok (.iconst 2, 1) := by decide +kernel
theorem dX6_ground_10 : decode cX6_ground 10 = .ok (.invokestatic 44, 3) := by decide +kernel
theorem dX6_ground_13 : decode cX6_ground 13 = .ok (.ifCond .ne 9, 3) := by decide +kernel
theorem dX6_ground_16 : decode cX6_ground 16 = .ok (.aload_n 0, 1) := by decide +kernel
theorem dX6_ground_17 : decode cX6_ground 17 = .ok (.iconst 0, 1) := by decide +kernel
theorem dX6_ground_18 : decode cX6_ground 18 = .ok (.invokevirtual 48, 3) := by decide +kernel
theorem dX6_ground_21 : decode cX6_ground 21 = .ok (.ireturn, 1) := by decide +kernel
theorem dX6_ground_22 : decode cX6_ground 22 = .ok (.aload_n 0, 1) := by decide +kernel
theorem dX6_ground_23 : decode cX6_ground 23 = .ok (.getfield 10, 3) := by decide +kernel
theorem dX6_ground_26 : decode cX6_ground 26 = .ok (.iload_n 1, 1) := by decide +kernel
theorem dX6_ground_27 : decode cX6_ground 27 = .ok (.invokevirtual 52, 3) := by decide +kernel
theorem dX6_ground_30 : decode cX6_ground 30 = .ok (.istore_n 3, 1) := by decide +kernel
theorem dX6_ground_31 : decode cX6_ground 31 = .ok (.aload_n 0, 1) := by decide +kernel
theorem dX6_ground_32 : decode cX6_ground 32 = .ok (.getfield 10, 3) := by decide +kernel
theorem dX6_ground_35 : decode cX6_ground 35 = .ok (.iload_n 1, 1) := by decide +kernel
theorem dX6_ground_36 : decode cX6_ground 36 = .ok (.iload_n 2, 1) := by decide +kernel
theorem dX6_ground_37 : decode cX6_ground 37 = .ok (.invokevirtual 55, 3) := by decide +kernel
theorem dX6_ground_40 : decode cX6_ground 40 = .ok (.iload_n 3, 1) := by decide +kernel
theorem dX6_ground_41 : decode cX6_ground 41 = .ok (.ireturn, 1) := by decide +kernel
set_option maxRecDepth 20000 in
theorem ggX6_cell_X6_isCell : GoodIn wsX6_cell wsX6_isCell := goodIn_r _ [5, 6, 7, 4, 8] (by decide +kernel) (by decide +kernel)
set_option maxRecDepth 20000 in
theorem gX6_cell_X6_isCell : GoodIn wsX6_cell (va_wsS RX6 40 yX6_isCell wsX6_isCell) := goodIn_app (goodIn_of _ (by decide +kernel)) ggX6_cell_X6_isCell
set_option maxRecDepth 20000 in
theorem ggX6_cell_X6_finding : GoodIn wsX6_cell wsX6_finding := goodIn_r _ [12, 13, 14, 15, 16, 4, 17, 18, 19, 20, 68, 69, 70, 71, 72, 73, 74] (by decide +kernel) (by decide +kernel)
set_option maxRecDepth 20000 in
theorem gX6_cell_X6_finding : GoodIn wsX6_cell (wsV RX6 48 RX6 yX6_finding wsX6_finding) := goodIn_app (goodIn_of _ (by decide +kernel)) ggX6_cell_X6_finding
set_option maxRecDepth 20000 in
theorem ggX6_cell_X2_groundOf : GoodIn wsX6_cell wsX2_groundOf := goodIn_r _ [25, 26, 27, 28, 4, 29, 75, 76, 77, 78, 79, 80, 81, 82] (by decide +kernel) (by decide +kernel)
set_option maxRecDepth 20000 in
theorem gX6_cell_X2_groundOf : GoodIn wsX6_cell (wsV RX6 52 RX2 yX2_groundOf wsX2_groundOf) := goodIn_app (goodIn_of _ (by decide +kernel)) ggX6_cell_X2_groundOf
set_option maxRecDepth 20000 in
theorem ggX6_cell_X2_pathOf : GoodIn wsX6_cell wsX2_pathOf := goodIn_r _ [33, 34, 16, 4, 17, 75, 76, 77, 78, 79, 80, 81, 82] (by decide +kernel) (by decide +kernel)
set_option maxRecDepth 20000 in
theorem gX6_cell_X2_pathOf : GoodIn wsX6_cell (wsV RX6 59 RX2 yX2_pathOf wsX2_pathOf) := goodIn_app (goodIn_of _ (by decide +kernel)) ggX6_cell_X2_pathOf
set_option maxRecDepth 20000 in
theorem ggX6_cell_X6_bit : GoodIn wsX6_cell wsX6_bit := goodIn_r _ [29] (by decide +kernel) (by decide +kernel)
set_option maxRecDepth 20000 in
theorem gX6_cell_X6_bit : GoodIn wsX6_cell (va_wsS RX6 62 yX6_bit wsX6_bit) := goodIn_app (goodIn_of _ (by decide +kernel)) ggX6_cell_X6_bit
set_option maxRecDepth 20000 in
theorem ggX6_cell_X0_neighbours : GoodIn wsX6_cell wsX0_neighbours := goodIn_r _ [39, 40, 41, 42] (by decide +kernel) (by decide +kernel)
set_option maxRecDepth 20000 in
theorem gX6_cell_X0_neighbours : GoodIn wsX6_cell (va_wsS RX6 66 yX0_neighbours wsX0_neighbours) := goodIn_app (goodIn_of _ (by decide +kernel)) ggX6_cell_X0_neighbours
set_option maxRecDepth 20000 in
theorem ggX6_cell_X2_pathSet : GoodIn wsX6_cell wsX2_pathSet := goodIn_r _ [46, 34, 28, 4, 29, 75, 76, 77, 78, 79, 80, 81, 82] (by decide +kernel) (by decide +kernel)
set_option maxRecDepth 20000 in
theorem gX6_cell_X2_pathSet : GoodIn wsX6_cell (wsV RX6 72 RX2 yX2_pathSet wsX2_pathSet) := goodIn_app (goodIn_of _ (by decide +kernel)) ggX6_cell_X2_pathSet
set_option maxRecDepth 20000 in
theorem ggX6_cell_J13_bitCount_95d88 : GoodIn wsX6_cell wsJ13_bitCount_95d88 := goodIn_r _ [50, 51, 52, 53] (by decide +kernel) (by decide +kernel)
set_option maxRecDepth 20000 in
theorem gX6_cell_J13_bitCount_95d88 : GoodIn wsX6_cell (va_wsS RX6 76 yJ13_bitCount_95d88 wsJ13_bitCount_95d88) := goodIn_app (goodIn_of _ (by decide +kernel)) ggX6_cell_J13_bitCount_95d88
set_option maxRecDepth 20000 in
theorem ggX6_cell_X2_headsOn : GoodIn wsX6_cell wsX2_headsOn := goodIn_r _ [57, 58, 59, 60, 61, 24, 62, 63, 64, 65, 66, 67, 75, 76, 77, 78, 79, 80, 81, 82, 83, 84, 85, 86] (by decide +kernel) (by decide +kernel)
set_option maxRecDepth 20000 in
theorem gX6_cell_X2_headsOn : GoodIn wsX6_cell (wsV RX6 82 RX2 yX2_headsOn wsX2_headsOn) := goodIn_app (goodIn_of _ (by decide +kernel)) ggX6_cell_X2_headsOn
theorem dX6_cell_0 : decode cX6_cell 0 = .ok (.iload_n 1, 1) := by decide +kernel
theorem dX6_cell_1 : decode cX6_cell 1 = .ok (.invokestatic 40, 3) := by decide +kernel
theorem dX6_cell_4 : decode cX6_cell 4 = .ok (.ifCond .ne 9, 3) := by decide +kernel
theorem dX6_cell_7 : decode cX6_cell 7 = .ok (.aload_n 0, 1) := by decide +kernel
theorem dX6_cell_8 : decode cX6_cell 8 = .ok (.iconst 0, 1) := by decide +kernel
theorem dX6_cell_9 : decode cX6_cell 9 = .ok (.invokevirtual 48, 3) := by decide +kernel
theorem dX6_cell_12 : decode cX6_cell 12 = .ok (.ireturn, 1) := by decide +kernel
theorem dX6_cell_13 : decode cX6_cell 13 = .ok (.iload_n 2, 1) := by decide +kernel
theorem dX6_cell_14 : decode cX6_cell 14 = .ok (.tableswitch 76 0 3 #[30, 39, 48, 67], 30) := by decide +kernel
theorem dX6_cell_44 : decode cX6_cell 44 = .ok (.aload_n 0, 1) := by decide +kernel
theorem dX6_cell_45 : decode cX6_cell 45 = .ok (.getfield 10, 3) := by decide +kernel
theorem dX6_cell_48 : decode cX6_cell 48 = .ok (.iload_n 1, 1) := by decide +kernel
theorem dX6_cell_49 : decode cX6_cell 49 = .ok (.invokevirtual 52, 3) := by decide +kernel
theorem dX6_cell_52 : decode cX6_cell 52 = .ok (.ireturn, 1) := by decide +kernel
theorem dX6_cell_53 : decode cX6_cell 53 = .ok (.aload_n 0, 1) := by decide +kernel
theorem dX6_cell_54 : decode cX6_cell 54 = .ok (.getfield 10, 3) := by decide +kernel
theorem dX6_cell_57 : decode cX6_cell 57 = .ok (.iload_n 1, 1) := by decide +kernel
theorem dX6_cell_58 : decode cX6_cell 58 = .ok (.invokevirtual 59, 3) := by decide +kernel
theorem dX6_cell_61 : decode cX6_cell 61 = .ok (.ireturn, 1) := by decide +kernel
theorem dX6_cell_62 : decode cX6_cell 62 = .ok (.iload_n 1, 1) := by decide +kernel
theorem dX6_cell_63 : decode cX6_cell 63 = .ok (.invokestatic 62, 3) := by decide +kernel
theorem dX6_cell_66 : decode cX6_cell 66 = .ok (.invokestatic 66, 3) := by decide +kernel
theorem dX6_cell_69 : decode cX6_cell 69 = .ok (.aload_n 0, 1) := by decide +kernel
theorem dX6_cell_70 : decode cX6_cell 70 = .ok (.getfield 10, 3) := by decide +kernel
theorem dX6_cell_73 : decode cX6_cell 73 = .ok (.invokevirtual 72, 3) := by decide +kernel
theorem dX6_cell_76 : decode cX6_cell 76 = .ok (.land, 1) := by decide +kernel
theorem dX6_cell_77 : decode cX6_cell 77 = .ok (.invokestatic 76, 3) := by decide +kernel
theorem dX6_cell_80 : decode cX6_cell 80 = .ok (.ireturn, 1) := by decide +kernel
theorem dX6_cell_81 : decode cX6_cell 81 = .ok (.aload_n 0, 1) := by decide +kernel
theorem dX6_cell_82 : decode cX6_cell 82 = .ok (.getfield 10, 3) := by decide +kernel
theorem dX6_cell_85 : decode cX6_cell 85 = .ok (.iload_n 1, 1) := by decide +kernel
theorem dX6_cell_86 : decode cX6_cell 86 = .ok (.invokevirtual 82, 3) := by decide +kernel
theorem dX6_cell_89 : decode cX6_cell 89 = .ok (.ireturn, 1) := by decide +kernel
theorem dX6_cell_90 : decode cX6_cell 90 = .ok (.aload_n 0, 1) := by decide +kernel
theorem dX6_cell_91 : decode cX6_cell 91 = .ok (.iconst 0, 1) := by decide +kernel
theorem dX6_cell_92 : decode cX6_cell 92 = .ok (.invokevirtual 48, 3) := by decide +kernel
theorem dX6_cell_95 : decode cX6_cell 95 = .ok (.ireturn, 1) := by decide +kernel
set_option maxRecDepth 20000 in
theorem ggX6_tread_X6_isCell : GoodIn wsX6_tread wsX6_isCell := goodIn_r _ [5, 6, 7, 4, 8] (by decide +kernel) (by decide +kernel)
set_option maxRecDepth 20000 in
theorem gX6_tread_X6_isCell : GoodIn wsX6_tread (va_wsS RX6 40 yX6_isCell wsX6_isCell) := goodIn_app (goodIn_of _ (by decide +kernel)) ggX6_tread_X6_isCell
set_option maxRecDepth 20000 in
theorem ggX6_tread_X6_within : GoodIn wsX6_tread wsX6_within := goodIn_r _ [8] (by decide +kernel) (by decide +kernel)
set_option maxRecDepth 20000 in
theorem gX6_tread_X6_within : GoodIn wsX6_tread (va_wsS RX6 44 yX6_within wsX6_within) := goodIn_app (goodIn_of _ (by decide +kernel)) ggX6_tread_X6_within
set_option maxRecDepth 20000 in
theorem ggX6_tread_X6_finding : GoodIn wsX6_tread wsX6_finding := goodIn_r _ [12, 13, 14, 15, 16, 4, 17, 18, 19, 20, 46, 47, 48, 49, 50, 51, 52] (by decide +kernel) (by decide +kernel)
set_option maxRecDepth 20000 in
theorem gX6_tread_X6_finding : GoodIn wsX6_tread (wsV RX6 48 RX6 yX6_finding wsX6_finding) := goodIn_app (goodIn_of _ (by decide +kernel)) ggX6_tread_X6_finding
set_option maxRecDepth 20000 in
theorem ggX6_tread_X2_isGrass : GoodIn wsX6_tread wsX2_isGrass := goodIn_r _ [25, 26, 27, 28, 24, 29, 30, 31, 32, 33, 34, 4, 35, 53, 54, 55, 56, 57, 58, 59, 60] (by decide +kernel) (by decide +kernel)
set_option maxRecDepth 20000 in
theorem gX6_tread_X2_isGrass : GoodIn wsX6_tread (wsV RX6 85 RX2 yX2_isGrass wsX2_isGrass) := goodIn_app (goodIn_of _ (by decide +kernel)) ggX6_tread_X2_isGrass
set_option maxRecDepth 20000 in
theorem ggX6_tread_X2_pathOf : GoodIn wsX6_tread wsX2_pathOf := goodIn_r _ [39, 40, 16, 4, 17, 53, 54, 55, 56, 57, 58, 59, 60] (by decide +kernel) (by decide +kernel)
set_option maxRecDepth 20000 in
theorem gX6_tread_X2_pathOf : GoodIn wsX6_tread (wsV RX6 59 RX2 yX2_pathOf wsX2_pathOf) := goodIn_app (goodIn_of _ (by decide +kernel)) ggX6_tread_X2_pathOf
set_option maxRecDepth 20000 in
theorem ggX6_tread_X2_becomePath : GoodIn wsX6_tread wsX2_becomePath := goodIn_r _ [44, 40, 45, 22, 23, 24, 25, 26, 27, 28, 29, 30, 31, 32, 33, 34, 4, 35, 19, 20, 53, 54, 55, 56, 57, 58, 59, 60] (by decide +kernel) (by decide +kernel)
set_option maxRecDepth 20000 in
theorem gX6_tread_X2_becomePath : GoodIn wsX6_tread (wsV RX6 88 RX2 yX2_becomePath wsX2_becomePath) := goodIn_app (goodIn_of _ (by decide +kernel)) ggX6_tread_X2_becomePath
theorem dX6_tread_0 : decode cX6_tread 0 = .ok (.iload_n 1, 1) := by decide +kernel
theorem dX6_tread_1 : decode cX6_tread 1 = .ok (.invokestatic 40, 3) := by decide +kernel
theorem dX6_tread_4 : decode cX6_tread 4 = .ok (.ifCond .eq 13, 3) := by decide +kernel
theorem dX6_tread_7 : decode cX6_tread 7 = .ok (.iload_n 2, 1) := by decide +kernel
theorem dX6_tread_8 : decode cX6_tread 8 = .ok (.iconst 0, 1) := by decide +kernel
theorem dX6_tread_9 : decode cX6_tread 9 = .ok (.bipush 99, 2) := by decide +kernel
theorem dX6_tread_11 : decode cX6_tread 11 = .ok (.invokestatic 44, 3) := by decide +kernel
theorem dX6_tread_14 : decode cX6_tread 14 = .ok (.ifCond .ne 9, 3) := by decide +kernel
theorem dX6_tread_17 : decode cX6_tread 17 = .ok (.aload_n 0, 1) := by decide +kernel
theorem dX6_tread_18 : decode cX6_tread 18 = .ok (.iconst 0, 1) := by decide +kernel
theorem dX6_tread_19 : decode cX6_tread 19 = .ok (.invokevirtual 48, 3) := by decide +kernel
theorem dX6_tread_22 : decode cX6_tread 22 = .ok (.ireturn, 1) := by decide +kernel
theorem dX6_tread_23 : decode cX6_tread 23 = .ok (.aload_n 0, 1) := by decide +kernel
theorem dX6_tread_24 : decode cX6_tread 24 = .ok (.getfield 10, 3) := by decide +kernel
theorem dX6_tread_27 : decode cX6_tread 27 = .ok (.iload_n 1, 1) := by decide +kernel
theorem dX6_tread_28 : decode cX6_tread 28 = .ok (.invokevirtual 85, 3) := by decide +kernel
theorem dX6_tread_31 : decode cX6_tread 31 = .ok (.ifCond .ne 9, 3) := by decide +kernel
theorem dX6_tread_34 : decode cX6_tread 34 = .ok (.aload_n 0, 1) := by decide +kernel
theorem dX6_tread_35 : decode cX6_tread 35 = .ok (.iconst 4, 1) := by decide +kernel
theorem dX6_tread_36 : decode cX6_tread 36 = .ok (.invokevirtual 48, 3) := by decide +kernel
theorem dX6_tread_39 : decode cX6_tread 39 = .ok (.ireturn, 1) := by decide +kernel
theorem dX6_tread_40 : decode cX6_tread 40 = .ok (.aload_n 0, 1) := by decide +kernel
theorem dX6_tread_41 : decode cX6_tread 41 = .ok (.getfield 10, 3) := by decide +kernel
theorem dX6_tread_44 : decode cX6_tread 44 = .ok (.iload_n 1, 1) := by decide +kernel
theorem dX6_tread_45 : decode cX6_tread 45 = .ok (.invokevirtual 59, 3) := by decide +kernel
theorem dX6_tread_48 : decode cX6_tread 48 = .ok (.istore_n 3, 1) := by decide +kernel
theorem dX6_tread_49 : decode cX6_tread 49 = .ok (.aload_n 0, 1) := by decide +kernel
theorem dX6_tread_50 : decode cX6_tread 50 = .ok (.getfield 10, 3) := by decide +kernel
theorem dX6_tread_53 : decode cX6_tread 53 = .ok (.iload_n 1, 1) := by decide +kernel
theorem dX6_tread_54 : decode cX6_tread 54 = .ok (.iload_n 2, 1) := by decide +kernel
theorem dX6_tread_55 : decode cX6_tread 55 = .ok (.invokevirtual 88, 3) := by decide +kernel
theorem dX6_tread_58 : decode cX6_tread 58 = .ok (.iload_n 3, 1) := by decide +kernel
theorem dX6_tread_59 : decode cX6_tread 59 = .ok (.ireturn, 1) := by decide +kernel
set_option maxRecDepth 20000 in
theorem ggX6_sow_X6_isKind : GoodIn wsX6_sow wsX6_isKind := goodIn_r _ [5, 6, 7, 4, 8] (by decide +kernel) (by decide +kernel)
set_option maxRecDepth 20000 in
theorem gX6_sow_X6_isKind : GoodIn wsX6_sow (va_wsS RX6 91 yX6_isKind wsX6_isKind) := goodIn_app (goodIn_of _ (by decide +kernel)) ggX6_sow_X6_isKind
set_option maxRecDepth 20000 in
theorem ggX6_sow_X6_isCell : GoodIn wsX6_sow wsX6_isCell := goodIn_r _ [11, 6, 7, 4, 8] (by decide +kernel) (by decide +kernel)
set_option maxRecDepth 20000 in
theorem gX6_sow_X6_isCell : GoodIn wsX6_sow (va_wsS RX6 40 yX6_isCell wsX6_isCell) := goodIn_app (goodIn_of _ (by decide +kernel)) ggX6_sow_X6_isCell
set_option maxRecDepth 20000 in
theorem ggX6_sow_X6_isHeading : GoodIn wsX6_sow wsX6_isHeading := goodIn_r _ [14, 6, 7, 4, 8] (by decide +kernel) (by decide +kernel)
set_option maxRecDepth 20000 in
theorem gX6_sow_X6_isHeading : GoodIn wsX6_sow (va_wsS RX6 94 yX6_isHeading wsX6_isHeading) := goodIn_app (goodIn_of _ (by decide +kernel)) ggX6_sow_X6_isHeading
set_option maxRecDepth 20000 in
theorem ggX6_sow_X6_finding : GoodIn wsX6_sow wsX6_finding := goodIn_r _ [18, 19, 20, 21, 22, 4, 23, 24, 25, 26, 42, 43, 44, 45, 46, 47, 48] (by decide +kernel) (by decide +kernel)
set_option maxRecDepth 20000 in
theorem gX6_sow_X6_finding : GoodIn wsX6_sow (wsV RX6 48 RX6 yX6_finding wsX6_finding) := goodIn_app (goodIn_of _ (by decide +kernel)) ggX6_sow_X6_finding
set_option maxRecDepth 20000 in
theorem ggX6_sow_X2_isFull : GoodIn wsX6_sow wsX2_isFull := goodIn_r _ [31, 32, 49, 50, 51, 52, 53, 54, 55, 56] (by decide +kernel) (by decide +kernel)
set_option maxRecDepth 20000 in
theorem gX6_sow_X2_isFull : GoodIn wsX6_sow (wsV RX6 97 RX2 yX2_isFull wsX2_isFull) := goodIn_app (goodIn_of _ (by decide +kernel)) ggX6_sow_X2_isFull
set_option maxRecDepth 20000 in
theorem ggX6_sow_X2_plant : GoodIn wsX6_sow wsX2_plant := goodIn_r _ [36, 32, 37, 38, 39, 30, 40, 41, 49, 50, 51, 52, 53, 54, 55, 56, 57, 58, 59, 60] (by decide +kernel) (by decide +kernel)
set_option maxRecDepth 20000 in
theorem gX6_sow_X2_plant : GoodIn wsX6_sow (wsV RX6 101 RX2 yX2_plant wsX2_plant) := goodIn_app (goodIn_of _ (by decide +kernel)) ggX6_sow_X2_plant
theorem dX6_sow_0 : decode cX6_sow 0 = .ok (.iload_n 1, 1) := by decide +kernel
theorem dX6_sow_1 : decode cX6_sow 1 = .ok (.invokestatic 91, 3) := by decide +kernel
theorem dX6_sow_4 : decode cX6_sow 4 = .ok (.ifCond .eq 17, 3) := by decide +kernel
theorem dX6_sow_7 : decode cX6_sow 7 = .ok (.iload_n 2, 1) := by decide +kernel
theorem dX6_sow_8 : decode cX6_sow 8 = .ok (.invokestatic 40, 3) := by decide +kernel
theorem dX6_sow_11 : decode cX6_sow 11 = .ok (.ifCond .eq 10, 3) := by decide +kernel
theorem dX6_sow_14 : decode cX6_sow 14 = .ok (.iload_n 3, 1) := by decide +kernel
theorem dX6_sow_15 : decode cX6_sow 15 = .ok (.invokestatic 94, 3) := by decide +kernel
theorem dX6_sow_18 : decode cX6_sow 18 = .ok (.ifCond .ne 9, 3) := by decide +kernel
theorem dX6_sow_21 : decode cX6_sow 21 = .ok (.aload_n 0, 1) := by decide +kernel
theorem dX6_sow_22 : decode cX6_sow 22 = .ok (.iconst 0, 1) := by decide +kernel
theorem dX6_sow_23 : decode cX6_sow 23 = .ok (.invokevirtual 48, 3) := by decide +kernel
theorem dX6_sow_26 : decode cX6_sow 26 = .ok (.ireturn, 1) := by decide +kernel
theorem dX6_sow_27 : decode cX6_sow 27 = .ok (.aload_n 0, 1) := by decide +kernel
theorem dX6_sow_28 : decode cX6_sow 28 = .ok (.getfield 10, 3) := by decide +kernel
theorem dX6_sow_31 : decode cX6_sow 31 = .ok (.invokevirtual 97, 3) := by decide +kernel
theorem dX6_sow_34 : decode cX6_sow 34 = .ok (.ifCond .eq 9, 3) := by decide +kernel
theorem dX6_sow_37 : decode cX6_sow 37 = .ok (.aload_n 0, 1) := by decide +kernel
theorem dX6_sow_38 : decode cX6_sow 38 = .ok (.iconst 1, 1) := by decide +kernel
theorem dX6_sow_39 : decode cX6_sow 39 = .ok (.invokevirtual 48, 3) := by decide +kernel
theorem dX6_sow_42 : decode cX6_sow 42 = .ok (.ireturn, 1) := by decide +kernel
theorem dX6_sow_43 : decode cX6_sow 43 = .ok (.aload_n 0, 1) := by decide +kernel
theorem dX6_sow_44 : decode cX6_sow 44 = .ok (.getfield 10, 3) := by decide +kernel
theorem dX6_sow_47 : decode cX6_sow 47 = .ok (.iload_n 1, 1) := by decide +kernel
theorem dX6_sow_48 : decode cX6_sow 48 = .ok (.iload_n 2, 1) := by decide +kernel
theorem dX6_sow_49 : decode cX6_sow 49 = .ok (.iload_n 3, 1) := by decide +kernel
theorem dX6_sow_50 : decode cX6_sow 50 = .ok (.iconst 0, 1) := by decide +kernel
theorem dX6_sow_51 : decode cX6_sow 51 = .ok (.invokevirtual 101, 3) := by decide +kernel
theorem dX6_sow_54 : decode cX6_sow 54 = .ok (.ireturn, 1) := by decide +kernel
set_option maxRecDepth 20000 in
theorem ggX6_of_X2_seedAt : GoodIn wsX6_of wsX2_seedAt := goodIn_r _ [6, 7, 8, 9, 10, 5, 11, 12, 84, 85, 86, 87, 88, 89, 90, 91] (by decide +kernel) (by decide +kernel)
set_option maxRecDepth 20000 in
theorem gX6_of_X2_seedAt : GoodIn wsX6_of (wsV RX6 105 RX2 yX2_seedAt wsX2_seedAt) := goodIn_app (goodIn_of _ (by decide +kernel)) ggX6_of_X2_seedAt
set_option maxRecDepth 20000 in
theorem ggX6_of_X6_finding : GoodIn wsX6_of wsX6_finding := goodIn_r _ [17, 18, 19, 20, 21, 16, 22, 23, 24, 25, 73, 74, 75, 76, 77, 78, 79] (by decide +kernel) (by decide +kernel)
set_option maxRecDepth 20000 in
theorem gX6_of_X6_finding : GoodIn wsX6_of (wsV RX6 48 RX6 yX6_finding wsX6_finding) := goodIn_app (goodIn_of _ (by decide +kernel)) ggX6_of_X6_finding
set_option maxRecDepth 20000 in
theorem ggX6_of_X3_lives : GoodIn wsX6_of wsX3_lives := goodIn_r _ [30, 31, 80, 81, 82, 83] (by decide +kernel) (by decide +kernel)
set_option maxRecDepth 20000 in
theorem gX6_of_X3_lives : GoodIn wsX6_of (wsV RX6 124 RX3 yX3_lives wsX3_lives) := goodIn_app (goodIn_of _ (by decide +kernel)) ggX6_of_X3_lives
set_option maxRecDepth 20000 in
theorem ggX6_of_X3_treads : GoodIn wsX6_of wsX3_treads := goodIn_r _ [35, 31, 80, 81, 82, 83] (by decide +kernel) (by decide +kernel)
set_option maxRecDepth 20000 in
theorem gX6_of_X3_treads : GoodIn wsX6_of (wsV RX6 128 RX3 yX3_treads wsX3_treads) := goodIn_app (goodIn_of _ (by decide +kernel)) ggX6_of_X3_treads
set_option maxRecDepth 20000 in
theorem ggX6_of_X2_turnOf : GoodIn wsX6_of wsX2_turnOf := goodIn_r _ [39, 40, 41, 42, 43, 44, 45, 46, 47, 5, 48, 49, 50, 16, 51, 52, 53, 54, 55, 56, 57, 58, 59, 60, 61, 62, 63, 64, 7, 65, 3, 4, 6, 8, 9, 10, 11, 12, 66, 67, 68, 29, 69, 70, 71, 27, 28, 30, 31, 80, 81, 82, 83, 84, 85, 86, 87, 88, 89, 90, 91] (by decide +kernel) (by decide +kernel)
set_option maxRecDepth 20000 in
theorem gX6_of_X2_turnOf : GoodIn wsX6_of (wsV RX6 131 RX2 yX2_turnOf wsX2_turnOf) := goodIn_app (goodIn_of _ (by decide +kernel)) ggX6_of_X2_turnOf
set_option maxRecDepth 20000 in
theorem ggX6_of_X3_isAlive : GoodIn wsX6_of wsX3_isAlive := goodIn_r _ [69, 70, 71, 27, 28, 29, 30, 31, 80, 81, 82, 83] (by decide +kernel) (by decide +kernel)
set_option maxRecDepth 20000 in
theorem gX6_of_X3_isAlive : GoodIn wsX6_of (wsV RX6 135 RX3 yX3_isAlive wsX3_isAlive) := goodIn_app (goodIn_of _ (by decide +kernel)) ggX6_of_X3_isAlive
theorem dX6_of_0 : decode cX6_of 0 = .ok (.aload_n 0, 1) := by decide +kernel
theorem dX6_of_1 : decode cX6_of 1 = .ok (.getfield 10, 3) := by decide +kernel
theorem dX6_of_4 : decode cX6_of 4 = .ok (.iload_n 1, 1) := by decide +kernel
theorem dX6_of_5 : decode cX6_of 5 = .ok (.invokevirtual 105, 3) := by decide +kernel
theorem dX6_of_8 : decode cX6_of 8 = .ok (.astore_n 3, 1) := by decide +kernel
theorem dX6_of_9 : decode cX6_of 9 = .ok (.aload_n 3, 1) := by decide +kernel
theorem dX6_of_10 : decode cX6_of 10 = .ok (.ifnonnull 9, 3) := by decide +kernel
theorem dX6_of_13 : decode cX6_of 13 = .ok (.aload_n 0, 1) := by decide +kernel
theorem dX6_of_14 : decode cX6_of 14 = .ok (.iconst 0, 1) := by decide +kernel
theorem dX6_of_15 : decode cX6_of 15 = .ok (.invokevirtual 48, 3) := by decide +kernel
theorem dX6_of_18 : decode cX6_of 18 = .ok (.ireturn, 1) := by decide +kernel
theorem dX6_of_19 : decode cX6_of 19 = .ok (.iload_n 2, 1) := by decide +kernel
theorem dX6_of_20 : decode cX6_of 20 = .ok (.tableswitch 100 0 7 #[48, 53, 58, 63, 68, 73, 78, 87], 48) := by decide +kernel
theorem dX6_of_68 : decode cX6_of 68 = .ok (.aload_n 3, 1) := by decide +kernel
theorem dX6_of_69 : decode cX6_of 69 = .ok (.getfield 109, 3) := by decide +kernel
theorem dX6_of_72 : decode cX6_of 72 = .ok (.ireturn, 1) := by decide +kernel
theorem dX6_of_73 : decode cX6_of 73 = .ok (.aload_n 3, 1) := by decide +kernel
theorem dX6_of_74 : decode cX6_of 74 = .ok (.getfield 115, 3) := by decide +kernel
theorem dX6_of_77 : decode cX6_of 77 = .ok (.ireturn, 1) := by decide +kernel
theorem dX6_of_78 : decode cX6_of 78 = .ok (.aload_n 3, 1) := by decide +kernel
theorem dX6_of_79 : decode cX6_of 79 = .ok (.getfield 118, 3) := by decide +kernel
theorem dX6_of_82 : decode cX6_of 82 = .ok (.ireturn, 1) := by decide +kernel
theorem dX6_of_83 : decode cX6_of 83 = .ok (.aload_n 3, 1) := by decide +kernel
theorem dX6_of_84 : decode cX6_of 84 = .ok (.getfield 121, 3) := by decide +kernel
theorem dX6_of_87 : decode cX6_of 87 = .ok (.ireturn, 1) := by decide +kernel
theorem dX6_of_88 : decode cX6_of 88 = .ok (.aload_n 3, 1) := by decide +kernel
theorem dX6_of_89 : decode cX6_of 89 = .ok (.invokevirtual 124, 3) := by decide +kernel
theorem dX6_of_92 : decode cX6_of 92 = .ok (.ireturn, 1) := by decide +kernel
theorem dX6_of_93 : decode cX6_of 93 = .ok (.aload_n 3, 1) := by decide +kernel
theorem dX6_of_94 : decode cX6_of 94 = .ok (.invokevirtual 128, 3) := by decide +kernel
theorem dX6_of_97 : decode cX6_of 97 = .ok (.ireturn, 1) := by decide +kernel
theorem dX6_of_98 : decode cX6_of 98 = .ok (.aload_n 0, 1) := by decide +kernel
theorem dX6_of_99 : decode cX6_of 99 = .ok (.getfield 10, 3) := by decide +kernel
theorem dX6_of_102 : decode cX6_of 102 = .ok (.aload_n 3, 1) := by decide +kernel
theorem dX6_of_103 : decode cX6_of 103 = .ok (.invokevirtual 131, 3) := by decide +kernel
theorem dX6_of_106 : decode cX6_of 106 = .ok (.ireturn, 1) := by decide +kernel
theorem dX6_of_107 : decode cX6_of 107 = .ok (.aload_n 3, 1) := by decide +kernel
theorem dX6_of_108 : decode cX6_of 108 = .ok (.invokevirtual 135, 3) := by decide +kernel
theorem dX6_of_111 : decode cX6_of 111 = .ok (.ifCond .eq 7, 3) := by decide +kernel
theorem dX6_of_114 : decode cX6_of 114 = .ok (.iconst 1, 1) := by decide +kernel
theorem dX6_of_115 : decode cX6_of 115 = .ok (.goto 4, 3) := by decide +kernel
theorem dX6_of_118 : decode cX6_of 118 = .ok (.iconst 0, 1) := by decide +kernel
theorem dX6_of_119 : decode cX6_of 119 = .ok (.ireturn, 1) := by decide +kernel
theorem dX6_of_120 : decode cX6_of 120 = .ok (.aload_n 0, 1) := by decide +kernel
theorem dX6_of_121 : decode cX6_of 121 = .ok (.iconst 0, 1) := by decide +kernel
theorem dX6_of_122 : decode cX6_of 122 = .ok (.invokevirtual 48, 3) := by decide +kernel
theorem dX6_of_125 : decode cX6_of 125 = .ok (.ireturn, 1) := by decide +kernel
set_option maxRecDepth 20000 in
theorem ggX6_change_X2_seedAt : GoodIn wsX6_change wsX2_seedAt := goodIn_r _ [6, 7, 8, 9, 10, 5, 11, 12, 54, 55, 56, 57, 58, 59, 60, 61] (by decide +kernel) (by decide +kernel)
set_option maxRecDepth 20000 in
theorem gX6_change_X2_seedAt : GoodIn wsX6_change (wsV RX6 105 RX2 yX2_seedAt wsX2_seedAt) := goodIn_app (goodIn_of _ (by decide +kernel)) ggX6_change_X2_seedAt
set_option maxRecDepth 20000 in
theorem ggX6_change_X3_takes : GoodIn wsX6_change wsX3_takes := goodIn_r _ [16, 17, 18, 19, 20, 21, 22, 23, 24, 25, 26] (by decide +kernel) (by decide +kernel)
set_option maxRecDepth 20000 in
theorem gX6_change_X3_takes : GoodIn wsX6_change (va_wsS RX6 138 yX3_takes wsX3_takes) := goodIn_app (goodIn_of _ (by decide +kernel)) ggX6_change_X3_takes
set_option maxRecDepth 20000 in
theorem ggX6_change_X6_finding : GoodIn wsX6_change wsX6_finding := goodIn_r _ [30, 31, 32, 33, 34, 18, 35, 36, 37, 38, 47, 48, 49, 50, 51, 52, 53] (by decide +kernel) (by decide +kernel)
set_option maxRecDepth 20000 in
theorem gX6_change_X6_finding : GoodIn wsX6_change (wsV RX6 48 RX6 yX6_finding wsX6_finding) := goodIn_app (goodIn_of _ (by decide +kernel)) ggX6_change_X6_finding
set_option maxRecDepth 20000 in
theorem ggX6_change_X3_replace : GoodIn wsX6_change wsX3_replace := goodIn_r _ [42, 43, 44, 45, 46, 62, 63, 64, 65] (by decide +kernel) (by decide +kernel)
set_option maxRecDepth 20000 in
theorem gX6_change_X3_replace : GoodIn wsX6_change (wsV RX6 142 RX3 yX3_replace wsX3_replace) := goodIn_app (goodIn_of _ (by decide +kernel)) ggX6_change_X3_replace
theorem dX6_change_0 : decode cX6_change 0 = .ok (.aload_n 0, 1) := by decide +kernel
theorem dX6_change_1 : decode cX6_change 1 = .ok (.getfield 10, 3) := by decide +kernel
theorem dX6_change_4 : decode cX6_change 4 = .ok (.iload_n 1, 1) := by decide +kernel
theorem dX6_change_5 : decode cX6_change 5 = .ok (.invokevirtual 105, 3) := by decide +kernel
theorem dX6_change_8 : decode cX6_change 8 = .ok (.astore 4, 2) := by decide +kernel
theorem dX6_change_10 : decode cX6_change 10 = .ok (.aload 4, 2) := by decide +kernel
theorem dX6_change_12 : decode cX6_change 12 = .ok (.ifnull 11, 3) := by decide +kernel
theorem dX6_change_15 : decode cX6_change 15 = .ok (.iload_n 2, 1) := by decide +kernel
theorem dX6_change_16 : decode cX6_change 16 = .ok (.iload_n 3, 1) := by decide +kernel
theorem dX6_change_17 : decode cX6_change 17 = .ok (.invokestatic 138, 3) := by decide +kernel
theorem dX6_change_20 : decode cX6_change 20 = .ok (.ifCond .ne 9, 3) := by decide +kernel
theorem dX6_change_23 : decode cX6_change 23 = .ok (.aload_n 0, 1) := by decide +kernel
theorem dX6_change_24 : decode cX6_change 24 = .ok (.iconst 0, 1) := by decide +kernel
theorem dX6_change_25 : decode cX6_change 25 = .ok (.invokevirtual 48, 3) := by decide +kernel
theorem dX6_change_28 : decode cX6_change 28 = .ok (.ireturn, 1) := by decide +kernel
theorem dX6_change_29 : decode cX6_change 29 = .ok (.aload 4, 2) := by decide +kernel
theorem dX6_change_31 : decode cX6_change 31 = .ok (.iload_n 2, 1) := by decide +kernel
theorem dX6_change_32 : decode cX6_change 32 = .ok (.iload_n 3, 1) := by decide +kernel
theorem dX6_change_33 : decode cX6_change 33 = .ok (.invokevirtual 142, 3) := by decide +kernel
theorem dX6_change_36 : decode cX6_change 36 = .ok (.ireturn, 1) := by decide +kernel
set_option maxRecDepth 20000 in
theorem ggX6_apart_X6_isCell : GoodIn wsX6_apart wsX6_isCell := goodIn_r _ [4, 5, 6, 3, 7] (by decide +kernel) (by decide +kernel)
set_option maxRecDepth 20000 in
theorem gX6_apart_X6_isCell : GoodIn wsX6_apart (va_wsS RX6 40 yX6_isCell wsX6_isCell) := goodIn_app (goodIn_of _ (by decide +kernel)) ggX6_apart_X6_isCell
set_option maxRecDepth 20000 in
theorem ggX6_apart_X6_finding : GoodIn wsX6_apart wsX6_finding := goodIn_r _ [11, 12, 13, 14, 15, 3, 16, 17, 18, 19, 24, 25, 26, 27, 28, 29, 30] (by decide +kernel) (by decide +kernel)
set_option maxRecDepth 20000 in
theorem gX6_apart_X6_finding : GoodIn wsX6_apart (wsV RX6 48 RX6 yX6_finding wsX6_finding) := goodIn_app (goodIn_of _ (by decide +kernel)) ggX6_apart_X6_finding
set_option maxRecDepth 20000 in
theorem ggX6_apart_X0_distance : GoodIn wsX6_apart wsX0_distance := goodIn_r _ [23] (by decide +kernel) (by decide +kernel)
set_option maxRecDepth 20000 in
theorem gX6_apart_X0_distance : GoodIn wsX6_apart (va_wsS RX6 146 yX0_distance wsX0_distance) := goodIn_app (goodIn_of _ (by decide +kernel)) ggX6_apart_X0_distance
theorem dX6_apart_0 : decode cX6_apart 0 = .ok (.iload_n 1, 1) := by decide +kernel
theorem dX6_apart_1 : decode cX6_apart 1 = .ok (.invokestatic 40, 3) := by decide +kernel
theorem dX6_apart_4 : decode cX6_apart 4 = .ok (.ifCond .eq 10, 3) := by decide +kernel
theorem dX6_apart_7 : decode cX6_apart 7 = .ok (.iload_n 2, 1) := by decide +kernel
theorem dX6_apart_8 : decode cX6_apart 8 = .ok (.invokestatic 40, 3) := by decide +kernel
theorem dX6_apart_11 : decode cX6_apart 11 = .ok (.ifCond .ne 9, 3) := by decide +kernel
theorem dX6_apart_14 : decode cX6_apart 14 = .ok (.aload_n 0, 1) := by decide +kernel
theorem dX6_apart_15 : decode cX6_apart 15 = .ok (.iconst 0, 1) := by decide +kernel
theorem dX6_apart_16 : decode cX6_apart 16 = .ok (.invokevirtual 48, 3) := by decide +kernel
theorem dX6_apart_19 : decode cX6_apart 19 = .ok (.ireturn, 1) := by decide +kernel
theorem dX6_apart_20 : decode cX6_apart 20 = .ok (.iload_n 1, 1) := by decide +kernel
theorem dX6_apart_21 : decode cX6_apart 21 = .ok (.iload_n 2, 1) := by decide +kernel
theorem dX6_apart_22 : decode cX6_apart 22 = .ok (.invokestatic 146, 3) := by decide +kernel
theorem dX6_apart_25 : decode cX6_apart 25 = .ok (.ireturn, 1) := by decide +kernel
set_option maxRecDepth 20000 in
theorem ggX6_go_X6_within : GoodIn wsX6_go wsX6_within := goodIn_r _ [6] (by decide +kernel) (by decide +kernel)
set_option maxRecDepth 20000 in
theorem gX6_go_X6_within : GoodIn wsX6_go (va_wsS RX6 44 yX6_within wsX6_within) := goodIn_app (goodIn_of _ (by decide +kernel)) ggX6_go_X6_within
set_option maxRecDepth 20000 in
theorem ggX6_go_X6_finding : GoodIn wsX6_go wsX6_finding := goodIn_r _ [10, 11, 12, 13, 14, 5, 15, 16, 17, 18, 125, 126, 127, 128, 129, 130, 131] (by decide +kernel) (by decide +kernel)
set_option maxRecDepth 20000 in
theorem gX6_go_X6_finding : GoodIn wsX6_go (wsV RX6 48 RX6 yX6_finding wsX6_finding) := goodIn_app (goodIn_of _ (by decide +kernel)) ggX6_go_X6_finding
set_option maxRecDepth 20000 in
theorem ggX6_go_X2_pass : GoodIn wsX6_go wsX2_pass := goodIn_r _ [23, 24, 25, 26, 27, 28, 29, 30, 31, 32, 33, 34, 35, 36, 37, 22, 38, 39, 40, 41, 42, 43, 44, 45, 46, 47, 48, 49, 50, 51, 52, 53, 54, 55, 56, 57, 58, 59, 60, 61, 62, 63, 64, 65, 66, 67, 68, 69, 70, 71, 72, 5, 73, 74, 75, 76, 77, 78, 79, 80, 81, 82, 83, 84, 85, 86, 87, 88, 89, 90, 91, 92, 93, 94, 95, 96, 97, 98, 99, 100, 101, 14, 15, 102, 103, 104, 105, 106, 107, 108, 109, 17, 18, 132, 133, 134, 135, 136, 137, 138, 139, 140, 141, 142, 143] (by decide +kernel) (by decide +kernel)
set_option maxRecDepth 20000 in
theorem gX6_go_X2_pass : GoodIn wsX6_go (wsV RX6 153 RX2 yX2_pass wsX2_pass) := goodIn_app (goodIn_of _ (by decide +kernel)) ggX6_go_X2_pass
set_option maxRecDepth 20000 in
theorem ggX6_go_X2_pathCells : GoodIn wsX6_go wsX2_pathCells := goodIn_r _ [113, 114, 115, 116, 22, 117, 24, 72, 5, 73, 118, 119, 120, 121, 122, 123, 124, 132, 133, 134, 135, 136, 137, 138, 139] (by decide +kernel) (by decide +kernel)
set_option maxRecDepth 20000 in
theorem gX6_go_X2_pathCells : GoodIn wsX6_go (wsV RX6 157 RX2 yX2_pathCells wsX2_pathCells) := goodIn_app (goodIn_of _ (by decide +kernel)) ggX6_go_X2_pathCells
theorem dX6_go_0 : decode cX6_go 0 = .ok (.iload_n 1, 1) := by decide +kernel
theorem dX6_go_1 : decode cX6_go 1 = .ok (.iconst 1, 1) := by decide +kernel
theorem dX6_go_2 : decode cX6_go 2 = .ok (.bipush 40, 2) := by decide +kernel
theorem dX6_go_4 : decode cX6_go 4 = .ok (.invokestatic 44, 3) := by decide +kernel
theorem dX6_go_7 : decode cX6_go 7 = .ok (.ifCond .ne 9, 3) := by decide +kernel
theorem dX6_go_10 : decode cX6_go 10 = .ok (.aload_n 0, 1) := by decide +kernel
theorem dX6_go_11 : decode cX6_go 11 = .ok (.iconst 0, 1) := by decide +kernel
theorem dX6_go_12 : decode cX6_go 12 = .ok (.invokevirtual 48, 3) := by decide +kernel
theorem dX6_go_15 : decode cX6_go 15 = .ok (.ireturn, 1) := by decide +kernel
theorem dX6_go_16 : decode cX6_go 16 = .ok (.aload_n 0, 1) := by decide +kernel
theorem dX6_go_17 : decode cX6_go 17 = .ok (.getfield 10, 3) := by decide +kernel
theorem dX6_go_20 : decode cX6_go 20 = .ok (.getfield 149, 3) := by decide +kernel
theorem dX6_go_23 : decode cX6_go 23 = .ok (.iload_n 1, 1) := by decide +kernel
theorem dX6_go_24 : decode cX6_go 24 = .ok (.iadd, 1) := by decide +kernel
theorem dX6_go_25 : decode cX6_go 25 = .ok (.ldc 152, 2) := by decide +kernel
theorem dX6_go_27 : decode cX6_go 27 = .ok (.if_icmp .le 9, 3) := by decide +kernel
theorem dX6_go_30 : decode cX6_go 30 = .ok (.aload_n 0, 1) := by decide +kernel
theorem dX6_go_31 : decode cX6_go 31 = .ok (.iconst 4, 1) := by decide +kernel
theorem dX6_go_32 : decode cX6_go 32 = .ok (.invokevirtual 48, 3) := by decide +kernel
theorem dX6_go_35 : decode cX6_go 35 = .ok (.ireturn, 1) := by decide +kernel
theorem dX6_go_36 : decode cX6_go 36 = .ok (.aload_n 0, 1) := by decide +kernel
theorem dX6_go_37 : decode cX6_go 37 = .ok (.getfield 10, 3) := by decide +kernel
theorem dX6_go_40 : decode cX6_go 40 = .ok (.iload_n 1, 1) := by decide +kernel
theorem dX6_go_41 : decode cX6_go 41 = .ok (.invokevirtual 153, 3) := by decide +kernel
theorem dX6_go_44 : decode cX6_go 44 = .ok (.aload_n 0, 1) := by decide +kernel
theorem dX6_go_45 : decode cX6_go 45 = .ok (.getfield 10, 3) := by decide +kernel
theorem dX6_go_48 : decode cX6_go 48 = .ok (.invokevirtual 157, 3) := by decide +kernel
theorem dX6_go_51 : decode cX6_go 51 = .ok (.ireturn, 1) := by decide +kernel
set_option maxRecDepth 20000 in
theorem ggX6_now_X2_pathCells : GoodIn wsX6_now wsX2_pathCells := goodIn_r _ [6, 7, 8, 9, 5, 10, 11, 12, 13, 14, 15, 16, 17, 18, 19, 20, 21, 83, 84, 85, 86, 87, 88, 89, 90] (by decide +kernel) (by decide +kernel)
set_option maxRecDepth 20000 in
theorem gX6_now_X2_pathCells : GoodIn wsX6_now (wsV RX6 157 RX2 yX2_pathCells wsX2_pathCells) := goodIn_app (goodIn_of _ (by decide +kernel)) ggX6_now_X2_pathCells
set_option maxRecDepth 20000 in
theorem ggX6_now_X2_aliveSet : GoodIn wsX6_now wsX2_aliveSet := goodIn_r _ [25, 26, 27, 28, 29, 5, 30, 31, 32, 33, 34, 35, 36, 37, 38, 39, 40, 41, 42, 43, 44, 45, 46, 83, 84, 85, 86, 87, 88, 89, 90, 91, 92, 93, 94] (by decide +kernel) (by decide +kernel)
set_option maxRecDepth 20000 in
theorem gX6_now_X2_aliveSet : GoodIn wsX6_now (wsV RX6 160 RX2 yX2_aliveSet wsX2_aliveSet) := goodIn_app (goodIn_of _ (by decide +kernel)) ggX6_now_X2_aliveSet
set_option maxRecDepth 20000 in
theorem ggX6_now_X2_pathOfAll : GoodIn wsX6_now wsX2_pathOfAll := goodIn_r _ [50, 11, 83, 84, 85, 86, 87, 88, 89, 90] (by decide +kernel) (by decide +kernel)
set_option maxRecDepth 20000 in
theorem gX6_now_X2_pathOfAll : GoodIn wsX6_now (wsV RX6 163 RX2 yX2_pathOfAll wsX2_pathOfAll) := goodIn_app (goodIn_of _ (by decide +kernel)) ggX6_now_X2_pathOfAll
set_option maxRecDepth 20000 in
theorem ggX6_now_X2_pathSet : GoodIn wsX6_now wsX2_pathSet := goodIn_r _ [10, 11, 12, 13, 14, 83, 84, 85, 86, 87, 88, 89, 90] (by decide +kernel) (by decide +kernel)
set_option maxRecDepth 20000 in
theorem gX6_now_X2_pathSet : GoodIn wsX6_now (wsV RX6 72 RX2 yX2_pathSet wsX2_pathSet) := goodIn_app (goodIn_of _ (by decide +kernel)) ggX6_now_X2_pathSet
set_option maxRecDepth 20000 in
theorem ggX6_now_X0_benches : GoodIn wsX6_now wsX0_benches := goodIn_r _ [55, 12, 13, 14, 56, 57, 54, 58, 59, 60, 61, 62, 16, 17, 18, 19, 20, 21] (by decide +kernel) (by decide +kernel)
set_option maxRecDepth 20000 in
theorem gX6_now_X0_benches : GoodIn wsX6_now (va_wsS RX6 166 yX0_benches wsX0_benches) := goodIn_app (goodIn_of _ (by decide +kernel)) ggX6_now_X0_benches
set_option maxRecDepth 20000 in
theorem ggX6_now_J13_bitCount_95d88 : GoodIn wsX6_now wsJ13_bitCount_95d88 := goodIn_r _ [18, 19, 20, 21] (by decide +kernel) (by decide +kernel)
set_option maxRecDepth 20000 in
theorem gX6_now_J13_bitCount_95d88 : GoodIn wsX6_now (va_wsS RX6 76 yJ13_bitCount_95d88 wsJ13_bitCount_95d88) := goodIn_app (goodIn_of _ (by decide +kernel)) ggX6_now_J13_bitCount_95d88
set_option maxRecDepth 20000 in
theorem ggX6_now_X6_finding : GoodIn wsX6_now wsX6_finding := goodIn_r _ [67, 68, 69, 70, 71, 13, 72, 73, 74, 75, 76, 77, 78, 79, 80, 81, 82] (by decide +kernel) (by decide +kernel)
set_option maxRecDepth 20000 in
theorem gX6_now_X6_finding : GoodIn wsX6_now (wsV RX6 48 RX6 yX6_finding wsX6_finding) := goodIn_app (goodIn_of _ (by decide +kernel)) ggX6_now_X6_finding
theorem dX6_now_0 : decode cX6_now 0 = .ok (.iload_n 1, 1) := by decide +kernel
theorem dX6_now_1 : decode cX6_now 1 = .ok (.tableswitch 81 0 4 #[35, 43, 51, 59, 67], 35) := by decide +kernel
theorem dX6_now_36 : decode cX6_now 36 = .ok (.aload_n 0, 1) := by decide +kernel
theorem dX6_now_37 : decode cX6_now 37 = .ok (.getfield 10, 3) := by decide +kernel
theorem dX6_now_40 : decode cX6_now 40 = .ok (.getfield 149, 3) := by decide +kernel
theorem dX6_now_43 : decode cX6_now 43 = .ok (.ireturn, 1) := by decide +kernel
theorem dX6_now_44 : decode cX6_now 44 = .ok (.aload_n 0, 1) := by decide +kernel
theorem dX6_now_45 : decode cX6_now 45 = .ok (.getfield 10, 3) := by decide +kernel
theorem dX6_now_48 : decode cX6_now 48 = .ok (.invokevirtual 157, 3) := by decide +kernel
theorem dX6_now_51 : decode cX6_now 51 = .ok (.ireturn, 1) := by decide +kernel
theorem dX6_now_52 : decode cX6_now 52 = .ok (.aload_n 0, 1) := by decide +kernel
theorem dX6_now_53 : decode cX6_now 53 = .ok (.getfield 10, 3) := by decide +kernel
theorem dX6_now_56 : decode cX6_now 56 = .ok (.invokevirtual 160, 3) := by decide +kernel
theorem dX6_now_59 : decode cX6_now 59 = .ok (.ireturn, 1) := by decide +kernel
theorem dX6_now_60 : decode cX6_now 60 = .ok (.aload_n 0, 1) := by decide +kernel
theorem dX6_now_61 : decode cX6_now 61 = .ok (.getfield 10, 3) := by decide +kernel
theorem dX6_now_64 : decode cX6_now 64 = .ok (.invokevirtual 163, 3) := by decide +kernel
theorem dX6_now_67 : decode cX6_now 67 = .ok (.ireturn, 1) := by decide +kernel
theorem dX6_now_68 : decode cX6_now 68 = .ok (.aload_n 0, 1) := by decide +kernel
theorem dX6_now_69 : decode cX6_now 69 = .ok (.getfield 10, 3) := by decide +kernel
theorem dX6_now_72 : decode cX6_now 72 = .ok (.invokevirtual 72, 3) := by decide +kernel
theorem dX6_now_75 : decode cX6_now 75 = .ok (.invokestatic 166, 3) := by decide +kernel
theorem dX6_now_78 : decode cX6_now 78 = .ok (.invokestatic 76, 3) := by decide +kernel
theorem dX6_now_81 : decode cX6_now 81 = .ok (.ireturn, 1) := by decide +kernel
theorem dX6_now_82 : decode cX6_now 82 = .ok (.aload_n 0, 1) := by decide +kernel
theorem dX6_now_83 : decode cX6_now 83 = .ok (.iconst 0, 1) := by decide +kernel
theorem dX6_now_84 : decode cX6_now 84 = .ok (.invokevirtual 48, 3) := by decide +kernel
theorem dX6_now_87 : decode cX6_now 87 = .ok (.ireturn, 1) := by decide +kernel
set_option maxRecDepth 20000 in
theorem ggX6_where_X2_pathSet : GoodIn wsX6_where wsX2_pathSet := goodIn_r _ [6, 7, 8, 9, 10, 47, 48, 49, 50, 51, 52, 53, 54] (by decide +kernel) (by decide +kernel)
set_option maxRecDepth 20000 in
theorem gX6_where_X2_pathSet : GoodIn wsX6_where (wsV RX6 72 RX2 yX2_pathSet wsX2_pathSet) := goodIn_app (goodIn_of _ (by decide +kernel)) ggX6_where_X2_pathSet
set_option maxRecDepth 20000 in
theorem ggX6_where_X0_benches : GoodIn wsX6_where wsX0_benches := goodIn_r _ [14, 8, 9, 10, 15, 16, 13, 17, 18, 19, 20, 21, 22, 23, 24, 25, 26, 27] (by decide +kernel) (by decide +kernel)
set_option maxRecDepth 20000 in
theorem gX6_where_X0_benches : GoodIn wsX6_where (va_wsS RX6 166 yX0_benches wsX0_benches) := goodIn_app (goodIn_of _ (by decide +kernel)) ggX6_where_X0_benches
set_option maxRecDepth 20000 in
theorem ggX6_where_X6_finding : GoodIn wsX6_where wsX6_finding := goodIn_r _ [31, 32, 33, 34, 35, 9, 36, 37, 38, 39, 40, 41, 42, 43, 44, 45, 46] (by decide +kernel) (by decide +kernel)
set_option maxRecDepth 20000 in
theorem gX6_where_X6_finding : GoodIn wsX6_where (wsV RX6 48 RX6 yX6_finding wsX6_finding) := goodIn_app (goodIn_of _ (by decide +kernel)) ggX6_where_X6_finding
theorem dX6_where_0 : decode cX6_where 0 = .ok (.iload_n 1, 1) := by decide +kernel
theorem dX6_where_1 : decode cX6_where 1 = .ok (.tableswitch 66 0 3 #[31, 39, 47, 55], 31) := by decide +kernel
theorem dX6_where_32 : decode cX6_where 32 = .ok (.aload_n 0, 1) := by decide +kernel
theorem dX6_where_33 : decode cX6_where 33 = .ok (.getfield 10, 3) := by decide +kernel
theorem dX6_where_36 : decode cX6_where 36 = .ok (.invokevirtual 72, 3) := by decide +kernel
theorem dX6_where_39 : decode cX6_where 39 = .ok (.lreturn, 1) := by decide +kernel
theorem dX6_where_40 : decode cX6_where 40 = .ok (.aload_n 0, 1) := by decide +kernel
theorem dX6_where_41 : decode cX6_where 41 = .ok (.getfield 10, 3) := by decide +kernel
theorem dX6_where_44 : decode cX6_where 44 = .ok (.getfield 169, 3) := by decide +kernel
theorem dX6_where_47 : decode cX6_where 47 = .ok (.lreturn, 1) := by decide +kernel
theorem dX6_where_48 : decode cX6_where 48 = .ok (.aload_n 0, 1) := by decide +kernel
theorem dX6_where_49 : decode cX6_where 49 = .ok (.getfield 10, 3) := by decide +kernel
theorem dX6_where_52 : decode cX6_where 52 = .ok (.getfield 173, 3) := by decide +kernel
theorem dX6_where_55 : decode cX6_where 55 = .ok (.lreturn, 1) := by decide +kernel
theorem dX6_where_56 : decode cX6_where 56 = .ok (.aload_n 0, 1) := by decide +kernel
theorem dX6_where_57 : decode cX6_where 57 = .ok (.getfield 10, 3) := by decide +kernel
theorem dX6_where_60 : decode cX6_where 60 = .ok (.invokevirtual 72, 3) := by decide +kernel
theorem dX6_where_63 : decode cX6_where 63 = .ok (.invokestatic 166, 3) := by decide +kernel
theorem dX6_where_66 : decode cX6_where 66 = .ok (.lreturn, 1) := by decide +kernel
theorem dX6_where_67 : decode cX6_where 67 = .ok (.aload_n 0, 1) := by decide +kernel
theorem dX6_where_68 : decode cX6_where 68 = .ok (.iconst 0, 1) := by decide +kernel
theorem dX6_where_69 : decode cX6_where 69 = .ok (.invokevirtual 48, 3) := by decide +kernel
theorem dX6_where_72 : decode cX6_where 72 = .ok (.i2l, 1) := by decide +kernel
theorem dX6_where_73 : decode cX6_where 73 = .ok (.lreturn, 1) := by decide +kernel
set_option maxRecDepth 20000 in
theorem ggX6_way_X6_isCell : GoodIn wsX6_way wsX6_isCell := goodIn_r _ [5, 6, 7, 4, 8] (by decide +kernel) (by decide +kernel)
set_option maxRecDepth 20000 in
theorem gX6_way_X6_isCell : GoodIn wsX6_way (va_wsS RX6 40 yX6_isCell wsX6_isCell) := goodIn_app (goodIn_of _ (by decide +kernel)) ggX6_way_X6_isCell
set_option maxRecDepth 20000 in
theorem ggX6_way_X6_finding : GoodIn wsX6_way wsX6_finding := goodIn_r _ [12, 13, 14, 15, 16, 4, 17, 18, 19, 20, 39, 40, 41, 42, 43, 44, 45] (by decide +kernel) (by decide +kernel)
set_option maxRecDepth 20000 in
theorem gX6_way_X6_finding : GoodIn wsX6_way (wsV RX6 48 RX6 yX6_finding wsX6_finding) := goodIn_app (goodIn_of _ (by decide +kernel)) ggX6_way_X6_finding
set_option maxRecDepth 20000 in
theorem ggX6_way_X2_pathSet : GoodIn wsX6_way wsX2_pathSet := goodIn_r _ [25, 26, 27, 4, 28, 46, 47, 48, 49, 50, 51, 52, 53] (by decide +kernel) (by decide +kernel)
set_option maxRecDepth 20000 in
theorem gX6_way_X2_pathSet : GoodIn wsX6_way (wsV RX6 72 RX2 yX2_pathSet wsX2_pathSet) := goodIn_app (goodIn_of _ (by decide +kernel)) ggX6_way_X2_pathSet
set_option maxRecDepth 20000 in
theorem ggX6_way_X0_steps : GoodIn wsX6_way wsX0_steps := goodIn_r _ [32, 27, 4, 28, 33, 34, 31, 35, 36, 37, 38] (by decide +kernel) (by decide +kernel)
set_option maxRecDepth 20000 in
theorem gX6_way_X0_steps : GoodIn wsX6_way (va_wsS RX6 176 yX0_steps wsX0_steps) := goodIn_app (goodIn_of _ (by decide +kernel)) ggX6_way_X0_steps
theorem dX6_way_0 : decode cX6_way 0 = .ok (.iload_n 1, 1) := by decide +kernel
theorem dX6_way_1 : decode cX6_way 1 = .ok (.invokestatic 40, 3) := by decide +kernel
theorem dX6_way_4 : decode cX6_way 4 = .ok (.ifCond .eq 10, 3) := by decide +kernel
theorem dX6_way_7 : decode cX6_way 7 = .ok (.iload_n 2, 1) := by decide +kernel
theorem dX6_way_8 : decode cX6_way 8 = .ok (.invokestatic 40, 3) := by decide +kernel
theorem dX6_way_11 : decode cX6_way 11 = .ok (.ifCond .ne 9, 3) := by decide +kernel
theorem dX6_way_14 : decode cX6_way 14 = .ok (.aload_n 0, 1) := by decide +kernel
theorem dX6_way_15 : decode cX6_way 15 = .ok (.iconst 0, 1) := by decide +kernel
theorem dX6_way_16 : decode cX6_way 16 = .ok (.invokevirtual 48, 3) := by decide +kernel
theorem dX6_way_19 : decode cX6_way 19 = .ok (.ireturn, 1) := by decide +kernel
theorem dX6_way_20 : decode cX6_way 20 = .ok (.iload_n 1, 1) := by decide +kernel
theorem dX6_way_21 : decode cX6_way 21 = .ok (.iload_n 2, 1) := by decide +kernel
theorem dX6_way_22 : decode cX6_way 22 = .ok (.aload_n 0, 1) := by decide +kernel
theorem dX6_way_23 : decode cX6_way 23 = .ok (.getfield 10, 3) := by decide +kernel
theorem dX6_way_26 : decode cX6_way 26 = .ok (.invokevirtual 72, 3) := by decide +kernel
theorem dX6_way_29 : decode cX6_way 29 = .ok (.invokestatic 176, 3) := by decide +kernel
theorem dX6_way_32 : decode cX6_way 32 = .ok (.istore_n 3, 1) := by decide +kernel
theorem dX6_way_33 : decode cX6_way 33 = .ok (.iload_n 3, 1) := by decide +kernel
theorem dX6_way_34 : decode cX6_way 34 = .ok (.ifCond .ge 11, 3) := by decide +kernel
theorem dX6_way_37 : decode cX6_way 37 = .ok (.aload_n 0, 1) := by decide +kernel
theorem dX6_way_38 : decode cX6_way 38 = .ok (.iconst 3, 1) := by decide +kernel
theorem dX6_way_39 : decode cX6_way 39 = .ok (.invokevirtual 48, 3) := by decide +kernel
theorem dX6_way_42 : decode cX6_way 42 = .ok (.goto 4, 3) := by decide +kernel
theorem dX6_way_45 : decode cX6_way 45 = .ok (.iload_n 3, 1) := by decide +kernel
theorem dX6_way_46 : decode cX6_way 46 = .ok (.ireturn, 1) := by decide +kernel
set_option maxRecDepth 20000 in
theorem ggX6_joined_X6_isCell : GoodIn wsX6_joined wsX6_isCell := goodIn_r _ [5, 6, 7, 4, 8] (by decide +kernel) (by decide +kernel)
set_option maxRecDepth 20000 in
theorem gX6_joined_X6_isCell : GoodIn wsX6_joined (va_wsS RX6 40 yX6_isCell wsX6_isCell) := goodIn_app (goodIn_of _ (by decide +kernel)) ggX6_joined_X6_isCell
set_option maxRecDepth 20000 in
theorem ggX6_joined_X6_finding : GoodIn wsX6_joined wsX6_finding := goodIn_r _ [12, 13, 14, 15, 16, 4, 17, 18, 19, 20, 42, 43, 44, 45, 46, 47, 48] (by decide +kernel) (by decide +kernel)
set_option maxRecDepth 20000 in
theorem gX6_joined_X6_finding : GoodIn wsX6_joined (wsV RX6 48 RX6 yX6_finding wsX6_finding) := goodIn_app (goodIn_of _ (by decide +kernel)) ggX6_joined_X6_finding
set_option maxRecDepth 20000 in
theorem ggX6_joined_X2_pathSet : GoodIn wsX6_joined wsX2_pathSet := goodIn_r _ [25, 26, 27, 4, 28, 49, 50, 51, 52, 53, 54, 55, 56] (by decide +kernel) (by decide +kernel)
set_option maxRecDepth 20000 in
theorem gX6_joined_X2_pathSet : GoodIn wsX6_joined (wsV RX6 72 RX2 yX2_pathSet wsX2_pathSet) := goodIn_app (goodIn_of _ (by decide +kernel)) ggX6_joined_X2_pathSet
set_option maxRecDepth 20000 in
theorem ggX6_joined_X0_reach : GoodIn wsX6_joined wsX0_reach := goodIn_r _ [32, 27, 4, 28, 33, 34, 31, 35, 36, 37, 38, 39, 40, 41] (by decide +kernel) (by decide +kernel)
set_option maxRecDepth 20000 in
theorem gX6_joined_X0_reach : GoodIn wsX6_joined (va_wsS RX6 180 yX0_reach wsX0_reach) := goodIn_app (goodIn_of _ (by decide +kernel)) ggX6_joined_X0_reach
theorem dX6_joined_0 : decode cX6_joined 0 = .ok (.iload_n 1, 1) := by decide +kernel
theorem dX6_joined_1 : decode cX6_joined 1 = .ok (.invokestatic 40, 3) := by decide +kernel
theorem dX6_joined_4 : decode cX6_joined 4 = .ok (.ifCond .ne 10, 3) := by decide +kernel
theorem dX6_joined_7 : decode cX6_joined 7 = .ok (.aload_n 0, 1) := by decide +kernel
theorem dX6_joined_8 : decode cX6_joined 8 = .ok (.iconst 0, 1) := by decide +kernel
theorem dX6_joined_9 : decode cX6_joined 9 = .ok (.invokevirtual 48, 3) := by decide +kernel
theorem dX6_joined_12 : decode cX6_joined 12 = .ok (.i2l, 1) := by decide +kernel
theorem dX6_joined_13 : decode cX6_joined 13 = .ok (.lreturn, 1) := by decide +kernel
theorem dX6_joined_14 : decode cX6_joined 14 = .ok (.iload_n 1, 1) := by decide +kernel
theorem dX6_joined_15 : decode cX6_joined 15 = .ok (.aload_n 0, 1) := by decide +kernel
theorem dX6_joined_16 : decode cX6_joined 16 = .ok (.getfield 10, 3) := by decide +kernel
theorem dX6_joined_19 : decode cX6_joined 19 = .ok (.invokevirtual 72, 3) := by decide +kernel
theorem dX6_joined_22 : decode cX6_joined 22 = .ok (.invokestatic 180, 3) := by decide +kernel
theorem dX6_joined_25 : decode cX6_joined 25 = .ok (.lreturn, 1) := by decide +kernel
set_option maxRecDepth 20000 in
theorem ggX6_groups_X2_pathSet : GoodIn wsX6_groups wsX2_pathSet := goodIn_r _ [6, 7, 8, 9, 10, 32, 33, 34, 35, 36, 37, 38, 39] (by decide +kernel) (by decide +kernel)
set_option maxRecDepth 20000 in
theorem gX6_groups_X2_pathSet : GoodIn wsX6_groups (wsV RX6 72 RX2 yX2_pathSet wsX2_pathSet) := goodIn_app (goodIn_of _ (by decide +kernel)) ggX6_groups_X2_pathSet
set_option maxRecDepth 20000 in
theorem ggX6_groups_X0_countGroups : GoodIn wsX6_groups wsX0_countGroups := goodIn_r _ [14, 15, 16, 17, 13, 18, 19, 20, 21, 22, 23, 24] (by decide +kernel) (by decide +kernel)
set_option maxRecDepth 20000 in
theorem gX6_groups_X0_countGroups : GoodIn wsX6_groups (va_wsS RX6 184 yX0_countGroups wsX0_countGroups) := goodIn_app (goodIn_of _ (by decide +kernel)) ggX6_groups_X0_countGroups
theorem dX6_groups_0 : decode cX6_groups 0 = .ok (.aload_n 0, 1) := by decide +kernel
theorem dX6_groups_1 : decode cX6_groups 1 = .ok (.getfield 10, 3) := by decide +kernel
theorem dX6_groups_4 : decode cX6_groups 4 = .ok (.invokevirtual 72, 3) := by decide +kernel
theorem dX6_groups_7 : decode cX6_groups 7 = .ok (.invokestatic 184, 3) := by decide +kernel
theorem dX6_groups_10 : decode cX6_groups 10 = .ok (.ireturn, 1) := by decide +kernel
set_option maxRecDepth 20000 in
theorem ggX6_parts_X6_isCell : GoodIn wsX6_parts wsX6_isCell := goodIn_r _ [5, 6, 7, 4, 8] (by decide +kernel) (by decide +kernel)
set_option maxRecDepth 20000 in
theorem gX6_parts_X6_isCell : GoodIn wsX6_parts (va_wsS RX6 40 yX6_isCell wsX6_isCell) := goodIn_app (goodIn_of _ (by decide +kernel)) ggX6_parts_X6_isCell
set_option maxRecDepth 20000 in
theorem ggX6_parts_X6_finding : GoodIn wsX6_parts wsX6_finding := goodIn_r _ [12, 13, 14, 15, 16, 4, 17, 18, 19, 20, 52, 53, 54, 55, 56, 57, 58] (by decide +kernel) (by decide +kernel)
set_option maxRecDepth 20000 in
theorem gX6_parts_X6_finding : GoodIn wsX6_parts (wsV RX6 48 RX6 yX6_finding wsX6_finding) := goodIn_app (goodIn_of _ (by decide +kernel)) ggX6_parts_X6_finding
set_option maxRecDepth 20000 in
theorem ggX6_parts_X2_pathSet : GoodIn wsX6_parts wsX2_pathSet := goodIn_r _ [25, 26, 27, 4, 28, 59, 60, 61, 62, 63, 64, 65, 66] (by decide +kernel) (by decide +kernel)
set_option maxRecDepth 20000 in
theorem gX6_parts_X2_pathSet : GoodIn wsX6_parts (wsV RX6 72 RX2 yX2_pathSet wsX2_pathSet) := goodIn_app (goodIn_of _ (by decide +kernel)) ggX6_parts_X2_pathSet
set_option maxRecDepth 20000 in
theorem ggX6_parts_X0_cuts : GoodIn wsX6_parts wsX0_cuts := goodIn_r _ [32, 33, 34, 35, 31, 36, 37, 38, 39, 27, 4, 28, 40, 41, 42, 43, 44, 45, 46, 47, 48] (by decide +kernel) (by decide +kernel)
set_option maxRecDepth 20000 in
theorem gX6_parts_X0_cuts : GoodIn wsX6_parts (va_wsS RX6 187 yX0_cuts wsX0_cuts) := goodIn_app (goodIn_of _ (by decide +kernel)) ggX6_parts_X0_cuts
set_option maxRecDepth 20000 in
theorem ggX6_parts_X0_least : GoodIn wsX6_parts wsX0_least := goodIn_r _ [51, 27, 4, 28] (by decide +kernel) (by decide +kernel)
set_option maxRecDepth 20000 in
theorem gX6_parts_X0_least : GoodIn wsX6_parts (va_wsS RX6 191 yX0_least wsX0_least) := goodIn_app (goodIn_of _ (by decide +kernel)) ggX6_parts_X0_least
theorem dX6_parts_0 : decode cX6_parts 0 = .ok (.iload_n 1, 1) := by decide +kernel
theorem dX6_parts_1 : decode cX6_parts 1 = .ok (.invokestatic 40, 3) := by decide +kernel
theorem dX6_parts_4 : decode cX6_parts 4 = .ok (.ifCond .eq 10, 3) := by decide +kernel
theorem dX6_parts_7 : decode cX6_parts 7 = .ok (.iload_n 2, 1) := by decide +kernel
theorem dX6_parts_8 : decode cX6_parts 8 = .ok (.invokestatic 40, 3) := by decide +kernel
theorem dX6_parts_11 : decode cX6_parts 11 = .ok (.ifCond .ne 9, 3) := by decide +kernel
theorem dX6_parts_14 : decode cX6_parts 14 = .ok (.aload_n 0, 1) := by decide +kernel
theorem dX6_parts_15 : decode cX6_parts 15 = .ok (.iconst 0, 1) := by decide +kernel
theorem dX6_parts_16 : decode cX6_parts 16 = .ok (.invokevirtual 48, 3) := by decide +kernel
theorem dX6_parts_19 : decode cX6_parts 19 = .ok (.ireturn, 1) := by decide +kernel
theorem dX6_parts_20 : decode cX6_parts 20 = .ok (.iload_n 1, 1) := by decide +kernel
theorem dX6_parts_21 : decode cX6_parts 21 = .ok (.iload_n 2, 1) := by decide +kernel
theorem dX6_parts_22 : decode cX6_parts 22 = .ok (.aload_n 0, 1) := by decide +kernel
theorem dX6_parts_23 : decode cX6_parts 23 = .ok (.getfield 10, 3) := by decide +kernel
theorem dX6_parts_26 : decode cX6_parts 26 = .ok (.invokevirtual 72, 3) := by decide +kernel
theorem dX6_parts_29 : decode cX6_parts 29 = .ok (.invokestatic 187, 3) := by decide +kernel
theorem dX6_parts_32 : decode cX6_parts 32 = .ok (.invokestatic 191, 3) := by decide +kernel
theorem dX6_parts_35 : decode cX6_parts 35 = .ok (.istore_n 3, 1) := by decide +kernel
theorem dX6_parts_36 : decode cX6_parts 36 = .ok (.iload_n 3, 1) := by decide +kernel
theorem dX6_parts_37 : decode cX6_parts 37 = .ok (.ifCond .ge 11, 3) := by decide +kernel
theorem dX6_parts_40 : decode cX6_parts 40 = .ok (.aload_n 0, 1) := by decide +kernel
theorem dX6_parts_41 : decode cX6_parts 41 = .ok (.iconst 3, 1) := by decide +kernel
theorem dX6_parts_42 : decode cX6_parts 42 = .ok (.invokevirtual 48, 3) := by decide +kernel
theorem dX6_parts_45 : decode cX6_parts 45 = .ok (.goto 4, 3) := by decide +kernel
theorem dX6_parts_48 : decode cX6_parts 48 = .ok (.iload_n 3, 1) := by decide +kernel
theorem dX6_parts_49 : decode cX6_parts 49 = .ok (.ireturn, 1) := by decide +kernel
set_option maxRecDepth 20000 in
theorem ggX6_bridges_X6_isCell : GoodIn wsX6_bridges wsX6_isCell := goodIn_r _ [5, 6, 7, 4, 8] (by decide +kernel) (by decide +kernel)
set_option maxRecDepth 20000 in
theorem gX6_bridges_X6_isCell : GoodIn wsX6_bridges (va_wsS RX6 40 yX6_isCell wsX6_isCell) := goodIn_app (goodIn_of _ (by decide +kernel)) ggX6_bridges_X6_isCell
set_option maxRecDepth 20000 in
theorem ggX6_bridges_X6_finding : GoodIn wsX6_bridges wsX6_finding := goodIn_r _ [12, 13, 14, 15, 16, 4, 17, 18, 19, 20, 56, 57, 58, 59, 60, 61, 62] (by decide +kernel) (by decide +kernel)
set_option maxRecDepth 20000 in
theorem gX6_bridges_X6_finding : GoodIn wsX6_bridges (wsV RX6 48 RX6 yX6_finding wsX6_finding) := goodIn_app (goodIn_of _ (by decide +kernel)) ggX6_bridges_X6_finding
set_option maxRecDepth 20000 in
theorem ggX6_bridges_X2_pathSet : GoodIn wsX6_bridges wsX2_pathSet := goodIn_r _ [25, 26, 27, 4, 28, 63, 64, 65, 66, 67, 68, 69, 70] (by decide +kernel) (by decide +kernel)
set_option maxRecDepth 20000 in
theorem gX6_bridges_X2_pathSet : GoodIn wsX6_bridges (wsV RX6 72 RX2 yX2_pathSet wsX2_pathSet) := goodIn_app (goodIn_of _ (by decide +kernel)) ggX6_bridges_X2_pathSet
set_option maxRecDepth 20000 in
theorem ggX6_bridges_X0_cuts : GoodIn wsX6_bridges wsX0_cuts := goodIn_r _ [32, 33, 34, 35, 31, 36, 37, 38, 39, 27, 4, 28, 40, 41, 42, 43, 44, 45, 46, 47, 48] (by decide +kernel) (by decide +kernel)
set_option maxRecDepth 20000 in
theorem gX6_bridges_X0_cuts : GoodIn wsX6_bridges (va_wsS RX6 187 yX0_cuts wsX0_cuts) := goodIn_app (goodIn_of _ (by decide +kernel)) ggX6_bridges_X0_cuts
set_option maxRecDepth 20000 in
theorem ggX6_bridges_J13_bitCount_95d88 : GoodIn wsX6_bridges wsJ13_bitCount_95d88 := goodIn_r _ [52, 53, 54, 55] (by decide +kernel) (by decide +kernel)
set_option maxRecDepth 20000 in
theorem gX6_bridges_J13_bitCount_95d88 : GoodIn wsX6_bridges (va_wsS RX6 76 yJ13_bitCount_95d88 wsJ13_bitCount_95d88) := goodIn_app (goodIn_of _ (by decide +kernel)) ggX6_bridges_J13_bitCount_95d88
theorem dX6_bridges_0 : decode cX6_bridges 0 = .ok (.iload_n 1, 1) := by decide +kernel
theorem dX6_bridges_1 : decode cX6_bridges 1 = .ok (.invokestatic 40, 3) := by decide +kernel
theorem dX6_bridges_4 : decode cX6_bridges 4 = .ok (.ifCond .eq 10, 3) := by decide +kernel
theorem dX6_bridges_7 : decode cX6_bridges 7 = .ok (.iload_n 2, 1) := by decide +kernel
theorem dX6_bridges_8 : decode cX6_bridges 8 = .ok (.invokestatic 40, 3) := by decide +kernel
theorem dX6_bridges_11 : decode cX6_bridges 11 = .ok (.ifCond .ne 9, 3) := by decide +kernel
theorem dX6_bridges_14 : decode cX6_bridges 14 = .ok (.aload_n 0, 1) := by decide +kernel
theorem dX6_bridges_15 : decode cX6_bridges 15 = .ok (.iconst 0, 1) := by decide +kernel
theorem dX6_bridges_16 : decode cX6_bridges 16 = .ok (.invokevirtual 48, 3) := by decide +kernel
theorem dX6_bridges_19 : decode cX6_bridges 19 = .ok (.ireturn, 1) := by decide +kernel
theorem dX6_bridges_20 : decode cX6_bridges 20 = .ok (.iload_n 1, 1) := by decide +kernel
theorem dX6_bridges_21 : decode cX6_bridges 21 = .ok (.iload_n 2, 1) := by decide +kernel
theorem dX6_bridges_22 : decode cX6_bridges 22 = .ok (.aload_n 0, 1) := by decide +kernel
theorem dX6_bridges_23 : decode cX6_bridges 23 = .ok (.getfield 10, 3) := by decide +kernel
theorem dX6_bridges_26 : decode cX6_bridges 26 = .ok (.invokevirtual 72, 3) := by decide +kernel
theorem dX6_bridges_29 : decode cX6_bridges 29 = .ok (.invokestatic 187, 3) := by decide +kernel
theorem dX6_bridges_32 : decode cX6_bridges 32 = .ok (.invokestatic 76, 3) := by decide +kernel
theorem dX6_bridges_35 : decode cX6_bridges 35 = .ok (.ireturn, 1) := by decide +kernel
set_option maxRecDepth 20000 in
theorem ggX6_mend_X6_isCell : GoodIn wsX6_mend wsX6_isCell := goodIn_r _ [5, 6, 7, 4, 8] (by decide +kernel) (by decide +kernel)
set_option maxRecDepth 20000 in
theorem gX6_mend_X6_isCell : GoodIn wsX6_mend (va_wsS RX6 40 yX6_isCell wsX6_isCell) := goodIn_app (goodIn_of _ (by decide +kernel)) ggX6_mend_X6_isCell
set_option maxRecDepth 20000 in
theorem ggX6_mend_X6_finding : GoodIn wsX6_mend wsX6_finding := goodIn_r _ [12, 13, 14, 15, 16, 4, 17, 18, 19, 20, 53, 54, 55, 56, 57, 58, 59] (by decide +kernel) (by decide +kernel)
set_option maxRecDepth 20000 in
theorem gX6_mend_X6_finding : GoodIn wsX6_mend (wsV RX6 48 RX6 yX6_finding wsX6_finding) := goodIn_app (goodIn_of _ (by decide +kernel)) ggX6_mend_X6_finding
set_option maxRecDepth 20000 in
theorem ggX6_mend_X2_pathSet : GoodIn wsX6_mend wsX2_pathSet := goodIn_r _ [25, 26, 27, 4, 28, 60, 61, 62, 63, 64, 65, 66, 67] (by decide +kernel) (by decide +kernel)
set_option maxRecDepth 20000 in
theorem gX6_mend_X2_pathSet : GoodIn wsX6_mend (wsV RX6 72 RX2 yX2_pathSet wsX2_pathSet) := goodIn_app (goodIn_of _ (by decide +kernel)) ggX6_mend_X2_pathSet
set_option maxRecDepth 20000 in
theorem ggX6_mend_X2_grassSet : GoodIn wsX6_mend wsX2_grassSet := goodIn_r _ [32, 33, 34, 35, 36, 60, 61, 62, 63, 64, 65, 66, 67] (by decide +kernel) (by decide +kernel)
set_option maxRecDepth 20000 in
theorem gX6_mend_X2_grassSet : GoodIn wsX6_mend (wsV RX6 194 RX2 yX2_grassSet wsX2_grassSet) := goodIn_app (goodIn_of _ (by decide +kernel)) ggX6_mend_X2_grassSet
set_option maxRecDepth 20000 in
theorem ggX6_mend_X0_fewestNew : GoodIn wsX6_mend wsX0_fewestNew := goodIn_r _ [40, 41, 42, 39, 43, 27, 4, 28, 44, 45, 46, 47, 48, 49, 50, 51, 52] (by decide +kernel) (by decide +kernel)
set_option maxRecDepth 20000 in
theorem gX6_mend_X0_fewestNew : GoodIn wsX6_mend (va_wsS RX6 197 yX0_fewestNew wsX0_fewestNew) := goodIn_app (goodIn_of _ (by decide +kernel)) ggX6_mend_X0_fewestNew
theorem dX6_mend_0 : decode cX6_mend 0 = .ok (.iload_n 1, 1) := by decide +kernel
theorem dX6_mend_1 : decode cX6_mend 1 = .ok (.invokestatic 40, 3) := by decide +kernel
theorem dX6_mend_4 : decode cX6_mend 4 = .ok (.ifCond .eq 10, 3) := by decide +kernel
theorem dX6_mend_7 : decode cX6_mend 7 = .ok (.iload_n 2, 1) := by decide +kernel
theorem dX6_mend_8 : decode cX6_mend 8 = .ok (.invokestatic 40, 3) := by decide +kernel
theorem dX6_mend_11 : decode cX6_mend 11 = .ok (.ifCond .ne 9, 3) := by decide +kernel
theorem dX6_mend_14 : decode cX6_mend 14 = .ok (.aload_n 0, 1) := by decide +kernel
theorem dX6_mend_15 : decode cX6_mend 15 = .ok (.iconst 0, 1) := by decide +kernel
theorem dX6_mend_16 : decode cX6_mend 16 = .ok (.invokevirtual 48, 3) := by decide +kernel
theorem dX6_mend_19 : decode cX6_mend 19 = .ok (.ireturn, 1) := by decide +kernel
theorem dX6_mend_20 : decode cX6_mend 20 = .ok (.iload_n 1, 1) := by decide +kernel
theorem dX6_mend_21 : decode cX6_mend 21 = .ok (.iload_n 2, 1) := by decide +kernel
theorem dX6_mend_22 : decode cX6_mend 22 = .ok (.aload_n 0, 1) := by decide +kernel
theorem dX6_mend_23 : decode cX6_mend 23 = .ok (.getfield 10, 3) := by decide +kernel
theorem dX6_mend_26 : decode cX6_mend 26 = .ok (.invokevirtual 72, 3) := by decide +kernel
theorem dX6_mend_29 : decode cX6_mend 29 = .ok (.aload_n 0, 1) := by decide +kernel
theorem dX6_mend_30 : decode cX6_mend 30 = .ok (.getfield 10, 3) := by decide +kernel
theorem dX6_mend_33 : decode cX6_mend 33 = .ok (.invokevirtual 194, 3) := by decide +kernel
theorem dX6_mend_36 : decode cX6_mend 36 = .ok (.invokestatic 197, 3) := by decide +kernel
theorem dX6_mend_39 : decode cX6_mend 39 = .ok (.istore_n 3, 1) := by decide +kernel
theorem dX6_mend_40 : decode cX6_mend 40 = .ok (.iload_n 3, 1) := by decide +kernel
theorem dX6_mend_41 : decode cX6_mend 41 = .ok (.ifCond .ge 11, 3) := by decide +kernel
theorem dX6_mend_44 : decode cX6_mend 44 = .ok (.aload_n 0, 1) := by decide +kernel
theorem dX6_mend_45 : decode cX6_mend 45 = .ok (.iconst 3, 1) := by decide +kernel
theorem dX6_mend_46 : decode cX6_mend 46 = .ok (.invokevirtual 48, 3) := by decide +kernel
theorem dX6_mend_49 : decode cX6_mend 49 = .ok (.goto 4, 3) := by decide +kernel
theorem dX6_mend_52 : decode cX6_mend 52 = .ok (.iload_n 3, 1) := by decide +kernel
theorem dX6_mend_53 : decode cX6_mend 53 = .ok (.ireturn, 1) := by decide +kernel
set_option maxRecDepth 20000 in
theorem ggX6_ahead_X6_isCell : GoodIn wsX6_ahead wsX6_isCell := goodIn_r _ [6, 7, 8, 5, 9] (by decide +kernel) (by decide +kernel)
set_option maxRecDepth 20000 in
theorem gX6_ahead_X6_isCell : GoodIn wsX6_ahead (va_wsS RX6 40 yX6_isCell wsX6_isCell) := goodIn_app (goodIn_of _ (by decide +kernel)) ggX6_ahead_X6_isCell
set_option maxRecDepth 20000 in
theorem ggX6_ahead_X6_within : GoodIn wsX6_ahead wsX6_within := goodIn_r _ [9] (by decide +kernel) (by decide +kernel)
set_option maxRecDepth 20000 in
theorem gX6_ahead_X6_within : GoodIn wsX6_ahead (va_wsS RX6 44 yX6_within wsX6_within) := goodIn_app (goodIn_of _ (by decide +kernel)) ggX6_ahead_X6_within
set_option maxRecDepth 20000 in
theorem ggX6_ahead_X6_finding : GoodIn wsX6_ahead wsX6_finding := goodIn_r _ [13, 14, 15, 16, 17, 5, 18, 19, 20, 21, 133, 134, 135, 136, 137, 138, 139] (by decide +kernel) (by decide +kernel)
set_option maxRecDepth 20000 in
theorem gX6_ahead_X6_finding : GoodIn wsX6_ahead (wsV RX6 48 RX6 yX6_finding wsX6_finding) := goodIn_app (goodIn_of _ (by decide +kernel)) ggX6_ahead_X6_finding
set_option maxRecDepth 20000 in
theorem ggX6_ahead_X2_copyFrom : GoodIn wsX6_ahead wsX2_copyFrom := goodIn_r _ [26, 27, 28, 29, 30, 31, 32, 33, 34, 5, 35, 36, 37, 38, 39, 40, 41, 42, 43, 44, 45, 46, 25, 47, 48, 49, 50, 51, 52, 53, 54, 55, 56, 57, 140, 141, 142, 143, 144, 145, 146, 147, 148, 149, 150, 151] (by decide +kernel) (by decide +kernel)
set_option maxRecDepth 20000 in
theorem gX6_ahead_X2_copyFrom : GoodIn wsX6_ahead (wsV RX6 201 RX2 yX2_copyFrom wsX2_copyFrom) := goodIn_app (goodIn_of _ (by decide +kernel)) ggX6_ahead_X2_copyFrom
set_option maxRecDepth 20000 in
theorem ggX6_ahead_X2_pass : GoodIn wsX6_ahead wsX2_pass := goodIn_r _ [61, 27, 62, 63, 38, 64, 31, 32, 65, 66, 37, 39, 67, 68, 69, 25, 70, 44, 45, 46, 47, 48, 71, 72, 73, 52, 74, 57, 75, 76, 77, 78, 54, 79, 80, 81, 82, 83, 84, 85, 86, 87, 88, 89, 90, 91, 92, 93, 94, 29, 95, 5, 96, 97, 98, 99, 100, 101, 102, 103, 104, 105, 106, 107, 108, 109, 110, 111, 112, 113, 114, 115, 116, 117, 118, 30, 119, 120, 121, 122, 123, 17, 18, 124, 125, 126, 127, 128, 129, 130, 131, 20, 21, 140, 141, 142, 143, 144, 145, 146, 147, 148, 149, 150, 151] (by decide +kernel) (by decide +kernel)
set_option maxRecDepth 20000 in
theorem gX6_ahead_X2_pass : GoodIn wsX6_ahead (wsV RX6 153 RX2 yX2_pass wsX2_pass) := goodIn_app (goodIn_of _ (by decide +kernel)) ggX6_ahead_X2_pass
set_option maxRecDepth 20000 in
theorem ggX6_ahead_X2_pathOf : GoodIn wsX6_ahead wsX2_pathOf := goodIn_r _ [123, 27, 17, 5, 18, 140, 141, 142, 143, 144, 145, 146, 147] (by decide +kernel) (by decide +kernel)
set_option maxRecDepth 20000 in
theorem gX6_ahead_X2_pathOf : GoodIn wsX6_ahead (wsV RX6 59 RX2 yX2_pathOf wsX2_pathOf) := goodIn_app (goodIn_of _ (by decide +kernel)) ggX6_ahead_X2_pathOf
theorem dX6_ahead_0 : decode cX6_ahead 0 = .ok (.iload_n 1, 1) := by decide +kernel
theorem dX6_ahead_1 : decode cX6_ahead 1 = .ok (.invokestatic 40, 3) := by decide +kernel
theorem dX6_ahead_4 : decode cX6_ahead 4 = .ok (.ifCond .eq 13, 3) := by decide +kernel
theorem dX6_ahead_7 : decode cX6_ahead 7 = .ok (.iload_n 2, 1) := by decide +kernel
theorem dX6_ahead_8 : decode cX6_ahead 8 = .ok (.iconst 0, 1) := by decide +kernel
theorem dX6_ahead_9 : decode cX6_ahead 9 = .ok (.bipush 60, 2) := by decide +kernel
theorem dX6_ahead_11 : decode cX6_ahead 11 = .ok (.invokestatic 44, 3) := by decide +kernel
theorem dX6_ahead_14 : decode cX6_ahead 14 = .ok (.ifCond .ne 9, 3) := by decide +kernel
theorem dX6_ahead_17 : decode cX6_ahead 17 = .ok (.aload_n 0, 1) := by decide +kernel
theorem dX6_ahead_18 : decode cX6_ahead 18 = .ok (.iconst 0, 1) := by decide +kernel
theorem dX6_ahead_19 : decode cX6_ahead 19 = .ok (.invokevirtual 48, 3) := by decide +kernel
theorem dX6_ahead_22 : decode cX6_ahead 22 = .ok (.ireturn, 1) := by decide +kernel
theorem dX6_ahead_23 : decode cX6_ahead 23 = .ok (.aload_n 0, 1) := by decide +kernel
theorem dX6_ahead_24 : decode cX6_ahead 24 = .ok (.getfield 16, 3) := by decide +kernel
theorem dX6_ahead_27 : decode cX6_ahead 27 = .ok (.aload_n 0, 1) := by decide +kernel
theorem dX6_ahead_28 : decode cX6_ahead 28 = .ok (.getfield 10, 3) := by decide +kernel
theorem dX6_ahead_31 : decode cX6_ahead 31 = .ok (.invokevirtual 201, 3) := by decide +kernel
theorem dX6_ahead_34 : decode cX6_ahead 34 = .ok (.aload_n 0, 1) := by decide +kernel
theorem dX6_ahead_35 : decode cX6_ahead 35 = .ok (.getfield 16, 3) := by decide +kernel
theorem dX6_ahead_38 : decode cX6_ahead 38 = .ok (.iload_n 2, 1) := by decide +kernel
theorem dX6_ahead_39 : decode cX6_ahead 39 = .ok (.invokevirtual 153, 3) := by decide +kernel
theorem dX6_ahead_42 : decode cX6_ahead 42 = .ok (.aload_n 0, 1) := by decide +kernel
theorem dX6_ahead_43 : decode cX6_ahead 43 = .ok (.getfield 16, 3) := by decide +kernel
theorem dX6_ahead_46 : decode cX6_ahead 46 = .ok (.iload_n 1, 1) := by decide +kernel
theorem dX6_ahead_47 : decode cX6_ahead 47 = .ok (.invokevirtual 59, 3) := by decide +kernel
theorem dX6_ahead_50 : decode cX6_ahead 50 = .ok (.ireturn, 1) := by decide +kernel
set_option maxRecDepth 20000 in
theorem ggX6_head_X2_copyFrom : GoodIn wsX6_head wsX2_copyFrom := goodIn_r _ [7, 8, 9, 10, 11, 12, 13, 14, 15, 16, 17, 18, 19, 20, 21, 22, 23, 24, 25, 26, 27, 28, 6, 29, 30, 31, 32, 33, 34, 35, 36, 37, 38, 39, 141, 142, 143, 144, 145, 146, 147, 148, 137, 138, 139, 140] (by decide +kernel) (by decide +kernel)
set_option maxRecDepth 20000 in
theorem gX6_head_X2_copyFrom : GoodIn wsX6_head (wsV RX6 201 RX2 yX2_copyFrom wsX2_copyFrom) := goodIn_app (goodIn_of _ (by decide +kernel)) ggX6_head_X2_copyFrom
set_option maxRecDepth 20000 in
theorem ggX6_head_X2_seedAt : GoodIn wsX6_head wsX2_seedAt := goodIn_r _ [43, 12, 26, 27, 28, 6, 29, 30, 141, 142, 143, 144, 145, 146, 147, 148] (by decide +kernel) (by decide +kernel)
set_option maxRecDepth 20000 in
theorem gX6_head_X2_seedAt : GoodIn wsX6_head (wsV RX6 105 RX2 yX2_seedAt wsX2_seedAt) := goodIn_app (goodIn_of _ (by decide +kernel)) ggX6_head_X2_seedAt
set_option maxRecDepth 20000 in
theorem ggX6_head_X6_within : GoodIn wsX6_head wsX6_within := goodIn_r _ [46] (by decide +kernel) (by decide +kernel)
set_option maxRecDepth 20000 in
theorem gX6_head_X6_within : GoodIn wsX6_head (va_wsS RX6 44 yX6_within wsX6_within) := goodIn_app (goodIn_of _ (by decide +kernel)) ggX6_head_X6_within
set_option maxRecDepth 20000 in
theorem ggX6_head_X6_finding : GoodIn wsX6_head wsX6_finding := goodIn_r _ [50, 51, 52, 53, 54, 16, 55, 56, 57, 58, 130, 131, 132, 133, 134, 135, 136] (by decide +kernel) (by decide +kernel)
set_option maxRecDepth 20000 in
theorem gX6_head_X6_finding : GoodIn wsX6_head (wsV RX6 48 RX6 yX6_finding wsX6_finding) := goodIn_app (goodIn_of _ (by decide +kernel)) ggX6_head_X6_finding
set_option maxRecDepth 20000 in
theorem ggX6_head_X2_pass : GoodIn wsX6_head wsX2_pass := goodIn_r _ [62, 8, 63, 64, 20, 65, 12, 13, 66, 67, 19, 21, 68, 41, 42, 6, 43, 26, 27, 28, 29, 30, 69, 70, 71, 34, 72, 39, 73, 74, 75, 76, 36, 77, 78, 79, 80, 81, 82, 83, 84, 85, 86, 87, 88, 89, 90, 91, 92, 10, 93, 16, 94, 95, 96, 97, 98, 99, 100, 101, 102, 103, 104, 105, 106, 107, 108, 109, 110, 111, 112, 113, 114, 115, 116, 11, 117, 118, 119, 120, 121, 54, 55, 122, 123, 124, 125, 126, 127, 128, 129, 57, 58, 141, 142, 143, 144, 145, 146, 147, 148, 137, 138, 139, 140] (by decide +kernel) (by decide +kernel)
set_option maxRecDepth 20000 in
theorem gX6_head_X2_pass : GoodIn wsX6_head (wsV RX6 153 RX2 yX2_pass wsX2_pass) := goodIn_app (goodIn_of _ (by decide +kernel)) ggX6_head_X2_pass
theorem dX6_head_0 : decode cX6_head 0 = .ok (.aload_n 0, 1) := by decide +kernel
theorem dX6_head_1 : decode cX6_head 1 = .ok (.getfield 16, 3) := by decide +kernel
theorem dX6_head_4 : decode cX6_head 4 = .ok (.aload_n 0, 1) := by decide +kernel
theorem dX6_head_5 : decode cX6_head 5 = .ok (.getfield 10, 3) := by decide +kernel
theorem dX6_head_8 : decode cX6_head 8 = .ok (.invokevirtual 201, 3) := by decide +kernel
theorem dX6_head_11 : decode cX6_head 11 = .ok (.aload_n 0, 1) := by decide +kernel
theorem dX6_head_12 : decode cX6_head 12 = .ok (.getfield 16, 3) := by decide +kernel
theorem dX6_head_15 : decode cX6_head 15 = .ok (.iload_n 1, 1) := by decide +kernel
theorem dX6_head_16 : decode cX6_head 16 = .ok (.invokevirtual 105, 3) := by decide +kernel
theorem dX6_head_19 : decode cX6_head 19 = .ok (.astore_n 3, 1) := by decide +kernel
theorem dX6_head_20 : decode cX6_head 20 = .ok (.aload_n 3, 1) := by decide +kernel
theorem dX6_head_21 : decode cX6_head 21 = .ok (.ifnull 13, 3) := by decide +kernel
theorem dX6_head_24 : decode cX6_head 24 = .ok (.iload_n 2, 1) := by decide +kernel
theorem dX6_head_25 : decode cX6_head 25 = .ok (.iconst 0, 1) := by decide +kernel
theorem dX6_head_26 : decode cX6_head 26 = .ok (.bipush 60, 2) := by decide +kernel
theorem dX6_head_28 : decode cX6_head 28 = .ok (.invokestatic 44, 3) := by decide +kernel
theorem dX6_head_31 : decode cX6_head 31 = .ok (.ifCond .ne 9, 3) := by decide +kernel
theorem dX6_head_34 : decode cX6_head 34 = .ok (.aload_n 0, 1) := by decide +kernel
theorem dX6_head_35 : decode cX6_head 35 = .ok (.iconst 0, 1) := by decide +kernel
theorem dX6_head_36 : decode cX6_head 36 = .ok (.invokevirtual 48, 3) := by decide +kernel
theorem dX6_head_39 : decode cX6_head 39 = .ok (.ireturn, 1) := by decide +kernel
theorem dX6_head_40 : decode cX6_head 40 = .ok (.aload_n 0, 1) := by decide +kernel
theorem dX6_head_41 : decode cX6_head 41 = .ok (.getfield 16, 3) := by decide +kernel
theorem dX6_head_44 : decode cX6_head 44 = .ok (.iload_n 2, 1) := by decide +kernel
theorem dX6_head_45 : decode cX6_head 45 = .ok (.invokevirtual 153, 3) := by decide +kernel
theorem dX6_head_48 : decode cX6_head 48 = .ok (.aload_n 3, 1) := by decide +kernel
theorem dX6_head_49 : decode cX6_head 49 = .ok (.getfield 115, 3) := by decide +kernel
theorem dX6_head_52 : decode cX6_head 52 = .ok (.ireturn, 1) := by decide +kernel
set_option maxRecDepth 20000 in
theorem ggX6_when_X6_isCell : GoodIn wsX6_when wsX6_isCell := goodIn_r _ [6, 7, 8, 5, 9] (by decide +kernel) (by decide +kernel)
set_option maxRecDepth 20000 in
theorem gX6_when_X6_isCell : GoodIn wsX6_when (va_wsS RX6 40 yX6_isCell wsX6_isCell) := goodIn_app (goodIn_of _ (by decide +kernel)) ggX6_when_X6_isCell
set_option maxRecDepth 20000 in
theorem ggX6_when_X6_finding : GoodIn wsX6_when wsX6_finding := goodIn_r _ [13, 14, 15, 16, 17, 5, 18, 19, 20, 21, 151, 152, 153, 154, 155, 156, 157] (by decide +kernel) (by decide +kernel)
set_option maxRecDepth 20000 in
theorem gX6_when_X6_finding : GoodIn wsX6_when (wsV RX6 48 RX6 yX6_finding wsX6_finding) := goodIn_app (goodIn_of _ (by decide +kernel)) ggX6_when_X6_finding
set_option maxRecDepth 20000 in
theorem ggX6_when_X2_copyFrom : GoodIn wsX6_when wsX2_copyFrom := goodIn_r _ [26, 27, 28, 29, 30, 31, 32, 33, 34, 5, 35, 36, 37, 38, 39, 40, 41, 42, 43, 44, 45, 46, 25, 47, 48, 49, 50, 51, 52, 53, 54, 55, 56, 57, 158, 159, 160, 161, 162, 163, 164, 165, 166, 167, 168, 169] (by decide +kernel) (by decide +kernel)
set_option maxRecDepth 20000 in
theorem gX6_when_X2_copyFrom : GoodIn wsX6_when (wsV RX6 201 RX2 yX2_copyFrom wsX2_copyFrom) := goodIn_app (goodIn_of _ (by decide +kernel)) ggX6_when_X2_copyFrom
set_option maxRecDepth 20000 in
theorem ggX6_when_X2_pathSet : GoodIn wsX6_when wsX2_pathSet := goodIn_r _ [61, 27, 62, 5, 63, 158, 159, 160, 161, 162, 163, 164, 165] (by decide +kernel) (by decide +kernel)
set_option maxRecDepth 20000 in
theorem gX6_when_X2_pathSet : GoodIn wsX6_when (wsV RX6 72 RX2 yX2_pathSet wsX2_pathSet) := goodIn_app (goodIn_of _ (by decide +kernel)) ggX6_when_X2_pathSet
set_option maxRecDepth 20000 in
theorem ggX6_when_X0_areJoined : GoodIn wsX6_when wsX0_areJoined := goodIn_r _ [67, 68, 69, 66, 70, 62, 5, 63, 71, 72, 73, 74, 75, 76, 77, 78, 79] (by decide +kernel) (by decide +kernel)
set_option maxRecDepth 20000 in
theorem gX6_when_X0_areJoined : GoodIn wsX6_when (va_wsS RX6 205 yX0_areJoined wsX0_areJoined) := goodIn_app (goodIn_of _ (by decide +kernel)) ggX6_when_X0_areJoined
set_option maxRecDepth 20000 in
theorem ggX6_when_X2_pass : GoodIn wsX6_when wsX2_pass := goodIn_r _ [83, 27, 84, 85, 38, 86, 31, 32, 87, 88, 37, 39, 89, 90, 91, 25, 92, 44, 45, 46, 47, 48, 93, 94, 95, 52, 96, 57, 97, 98, 99, 100, 54, 101, 102, 103, 104, 105, 106, 107, 108, 109, 110, 66, 111, 112, 113, 114, 115, 29, 62, 5, 63, 116, 117, 118, 119, 120, 121, 122, 123, 124, 125, 126, 127, 128, 129, 130, 131, 132, 133, 134, 135, 136, 137, 30, 138, 139, 140, 141, 142, 17, 18, 143, 144, 145, 146, 147, 148, 149, 150, 20, 21, 158, 159, 160, 161, 162, 163, 164, 165, 166, 167, 168, 169] (by decide +kernel) (by decide +kernel)
set_option maxRecDepth 20000 in
theorem gX6_when_X2_pass : GoodIn wsX6_when (wsV RX6 153 RX2 yX2_pass wsX2_pass) := goodIn_app (goodIn_of _ (by decide +kernel)) ggX6_when_X2_pass
theorem dX6_when_0 : decode cX6_when 0 = .ok (.iload_n 1, 1) := by decide +kernel
theorem dX6_when_1 : decode cX6_when 1 = .ok (.invokestatic 40, 3) := by decide +kernel
theorem dX6_when_4 : decode cX6_when 4 = .ok (.ifCond .eq 10, 3) := by decide +kernel
theorem dX6_when_7 : decode cX6_when 7 = .ok (.iload_n 2, 1) := by decide +kernel
theorem dX6_when_8 : decode cX6_when 8 = .ok (.invokestatic 40, 3) := by decide +kernel
theorem dX6_when_11 : decode cX6_when 11 = .ok (.ifCond .ne 9, 3) := by decide +kernel
theorem dX6_when_14 : decode cX6_when 14 = .ok (.aload_n 0, 1) := by decide +kernel
theorem dX6_when_15 : decode cX6_when 15 = .ok (.iconst 0, 1) := by decide +kernel
theorem dX6_when_16 : decode cX6_when 16 = .ok (.invokevirtual 48, 3) := by decide +kernel
theorem dX6_when_19 : decode cX6_when 19 = .ok (.ireturn, 1) := by decide +kernel
theorem dX6_when_20 : decode cX6_when 20 = .ok (.aload_n 0, 1) := by decide +kernel
theorem dX6_when_21 : decode cX6_when 21 = .ok (.getfield 16, 3) := by decide +kernel
theorem dX6_when_24 : decode cX6_when 24 = .ok (.aload_n 0, 1) := by decide +kernel
theorem dX6_when_25 : decode cX6_when 25 = .ok (.getfield 10, 3) := by decide +kernel
theorem dX6_when_28 : decode cX6_when 28 = .ok (.invokevirtual 201, 3) := by decide +kernel
theorem dX6_when_31 : decode cX6_when 31 = .ok (.iconst 0, 1) := by decide +kernel
theorem dX6_when_32 : decode cX6_when 32 = .ok (.istore_n 3, 1) := by decide +kernel
theorem dX6_when_33 : decode cX6_when 33 = .ok (.iload_n 3, 1) := by decide +kernel
theorem dX6_when_34 : decode cX6_when 34 = .ok (.bipush 60, 2) := by decide +kernel
theorem dX6_when_36 : decode cX6_when 36 = .ok (.if_icmp .gt 34, 3) := by decide +kernel
theorem dX6_when_39 : decode cX6_when 39 = .ok (.iload_n 1, 1) := by decide +kernel
theorem dX6_when_40 : decode cX6_when 40 = .ok (.iload_n 2, 1) := by decide +kernel
theorem dX6_when_41 : decode cX6_when 41 = .ok (.aload_n 0, 1) := by decide +kernel
theorem dX6_when_42 : decode cX6_when 42 = .ok (.getfield 16, 3) := by decide +kernel
theorem dX6_when_45 : decode cX6_when 45 = .ok (.invokevirtual 72, 3) := by decide +kernel
theorem dX6_when_48 : decode cX6_when 48 = .ok (.invokestatic 205, 3) := by decide +kernel
theorem dX6_when_51 : decode cX6_when 51 = .ok (.ifCond .eq 5, 3) := by decide +kernel
theorem dX6_when_54 : decode cX6_when 54 = .ok (.iload_n 3, 1) := by decide +kernel
theorem dX6_when_55 : decode cX6_when 55 = .ok (.ireturn, 1) := by decide +kernel
theorem dX6_when_56 : decode cX6_when 56 = .ok (.aload_n 0, 1) := by decide +kernel
theorem dX6_when_57 : decode cX6_when 57 = .ok (.getfield 16, 3) := by decide +kernel
theorem dX6_when_60 : decode cX6_when 60 = .ok (.iconst 1, 1) := by decide +kernel
theorem dX6_when_61 : decode cX6_when 61 = .ok (.invokevirtual 153, 3) := by decide +kernel
theorem dX6_when_64 : decode cX6_when 64 = .ok (.iinc 3 1, 3) := by decide +kernel
theorem dX6_when_67 : decode cX6_when 67 = .ok (.goto (-34), 3) := by decide +kernel
theorem dX6_when_70 : decode cX6_when 70 = .ok (.aload_n 0, 1) := by decide +kernel
theorem dX6_when_71 : decode cX6_when 71 = .ok (.iconst 3, 1) := by decide +kernel
theorem dX6_when_72 : decode cX6_when 72 = .ok (.invokevirtual 48, 3) := by decide +kernel
theorem dX6_when_75 : decode cX6_when 75 = .ok (.ireturn, 1) := by decide +kernel
set_option maxRecDepth 20000 in
theorem ggX6_bare_X2_copyFrom : GoodIn wsX6_bare wsX2_copyFrom := goodIn_r _ [7, 8, 9, 10, 11, 12, 13, 14, 15, 16, 17, 18, 19, 20, 21, 22, 23, 24, 25, 26, 27, 28, 6, 29, 30, 31, 32, 33, 34, 35, 36, 37, 38, 39, 137, 138, 139, 140, 141, 142, 143, 144, 145, 146, 147, 148] (by decide +kernel) (by decide +kernel)
set_option maxRecDepth 20000 in
theorem gX6_bare_X2_copyFrom : GoodIn wsX6_bare (wsV RX6 201 RX2 yX2_copyFrom wsX2_copyFrom) := goodIn_app (goodIn_of _ (by decide +kernel)) ggX6_bare_X2_copyFrom
set_option maxRecDepth 20000 in
theorem ggX6_bare_X2_pathSet : GoodIn wsX6_bare wsX2_pathSet := goodIn_r _ [43, 8, 44, 16, 45, 137, 138, 139, 140, 141, 142, 143, 144] (by decide +kernel) (by decide +kernel)
set_option maxRecDepth 20000 in
theorem gX6_bare_X2_pathSet : GoodIn wsX6_bare (wsV RX6 72 RX2 yX2_pathSet wsX2_pathSet) := goodIn_app (goodIn_of _ (by decide +kernel)) ggX6_bare_X2_pathSet
set_option maxRecDepth 20000 in
theorem ggX6_bare_X2_pass : GoodIn wsX6_bare wsX2_pass := goodIn_r _ [49, 8, 50, 51, 20, 52, 12, 13, 53, 54, 19, 21, 55, 56, 57, 6, 58, 26, 27, 28, 29, 30, 59, 60, 61, 34, 62, 39, 63, 64, 65, 66, 36, 67, 68, 69, 70, 71, 72, 73, 74, 75, 76, 77, 78, 79, 80, 81, 82, 10, 44, 16, 45, 83, 84, 85, 86, 87, 88, 89, 90, 91, 92, 93, 94, 95, 96, 97, 98, 99, 100, 101, 102, 103, 104, 11, 105, 106, 107, 108, 109, 110, 111, 112, 113, 114, 115, 116, 117, 118, 119, 120, 121, 137, 138, 139, 140, 141, 142, 143, 144, 145, 146, 147, 148] (by decide +kernel) (by decide +kernel)
set_option maxRecDepth 20000 in
theorem gX6_bare_X2_pass : GoodIn wsX6_bare (wsV RX6 153 RX2 yX2_pass wsX2_pass) := goodIn_app (goodIn_of _ (by decide +kernel)) ggX6_bare_X2_pass
set_option maxRecDepth 20000 in
theorem ggX6_bare_X6_finding : GoodIn wsX6_bare wsX6_finding := goodIn_r _ [125, 126, 127, 128, 110, 16, 111, 129, 120, 121, 130, 131, 132, 133, 134, 135, 136] (by decide +kernel) (by decide +kernel)
set_option maxRecDepth 20000 in
theorem gX6_bare_X6_finding : GoodIn wsX6_bare (wsV RX6 48 RX6 yX6_finding wsX6_finding) := goodIn_app (goodIn_of _ (by decide +kernel)) ggX6_bare_X6_finding
theorem dX6_bare_0 : decode cX6_bare 0 = .ok (.aload_n 0, 1) := by decide +kernel
theorem dX6_bare_1 : decode cX6_bare 1 = .ok (.getfield 16, 3) := by decide +kernel
theorem dX6_bare_4 : decode cX6_bare 4 = .ok (.aload_n 0, 1) := by decide +kernel
theorem dX6_bare_5 : decode cX6_bare 5 = .ok (.getfield 10, 3) := by decide +kernel
theorem dX6_bare_8 : decode cX6_bare 8 = .ok (.invokevirtual 201, 3) := by decide +kernel
theorem dX6_bare_11 : decode cX6_bare 11 = .ok (.iconst 0, 1) := by decide +kernel
theorem dX6_bare_12 : decode cX6_bare 12 = .ok (.istore_n 1, 1) := by decide +kernel
theorem dX6_bare_13 : decode cX6_bare 13 = .ok (.iload_n 1, 1) := by decide +kernel
theorem dX6_bare_14 : decode cX6_bare 14 = .ok (.bipush 60, 2) := by decide +kernel
theorem dX6_bare_16 : decode cX6_bare 16 = .ok (.if_icmp .gt 31, 3) := by decide +kernel
theorem dX6_bare_19 : decode cX6_bare 19 = .ok (.aload_n 0, 1) := by decide +kernel
theorem dX6_bare_20 : decode cX6_bare 20 = .ok (.getfield 16, 3) := by decide +kernel
theorem dX6_bare_23 : decode cX6_bare 23 = .ok (.invokevirtual 72, 3) := by decide +kernel
theorem dX6_bare_26 : decode cX6_bare 26 = .ok (.lconst 0, 1) := by decide +kernel
theorem dX6_bare_27 : decode cX6_bare 27 = .ok (.lcmp, 1) := by decide +kernel
theorem dX6_bare_28 : decode cX6_bare 28 = .ok (.ifCond .ne 5, 3) := by decide +kernel
theorem dX6_bare_31 : decode cX6_bare 31 = .ok (.iload_n 1, 1) := by decide +kernel
theorem dX6_bare_32 : decode cX6_bare 32 = .ok (.ireturn, 1) := by decide +kernel
theorem dX6_bare_33 : decode cX6_bare 33 = .ok (.aload_n 0, 1) := by decide +kernel
theorem dX6_bare_34 : decode cX6_bare 34 = .ok (.getfield 16, 3) := by decide +kernel
theorem dX6_bare_37 : decode cX6_bare 37 = .ok (.iconst 1, 1) := by decide +kernel
theorem dX6_bare_38 : decode cX6_bare 38 = .ok (.invokevirtual 153, 3) := by decide +kernel
theorem dX6_bare_41 : decode cX6_bare 41 = .ok (.iinc 1 1, 3) := by decide +kernel
theorem dX6_bare_44 : decode cX6_bare 44 = .ok (.goto (-31), 3) := by decide +kernel
theorem dX6_bare_47 : decode cX6_bare 47 = .ok (.aload_n 0, 1) := by decide +kernel
theorem dX6_bare_48 : decode cX6_bare 48 = .ok (.iconst 3, 1) := by decide +kernel
theorem dX6_bare_49 : decode cX6_bare 49 = .ok (.invokevirtual 48, 3) := by decide +kernel
theorem dX6_bare_52 : decode cX6_bare 52 = .ok (.ireturn, 1) := by decide +kernel
set_option maxRecDepth 20000 in
theorem ggX6_there_X6_within : GoodIn wsX6_there wsX6_within := goodIn_r _ [6] (by decide +kernel) (by decide +kernel)
set_option maxRecDepth 20000 in
theorem gX6_there_X6_within : GoodIn wsX6_there (va_wsS RX6 44 yX6_within wsX6_within) := goodIn_app (goodIn_of _ (by decide +kernel)) ggX6_there_X6_within
set_option maxRecDepth 20000 in
theorem ggX6_there_X6_finding : GoodIn wsX6_there wsX6_finding := goodIn_r _ [10, 11, 12, 13, 14, 5, 15, 16, 17, 18, 133, 134, 135, 136, 137, 138, 139] (by decide +kernel) (by decide +kernel)
set_option maxRecDepth 20000 in
theorem gX6_there_X6_finding : GoodIn wsX6_there (wsV RX6 48 RX6 yX6_finding wsX6_finding) := goodIn_app (goodIn_of _ (by decide +kernel)) ggX6_there_X6_finding
set_option maxRecDepth 20000 in
theorem ggX6_there_X2_copyFrom : GoodIn wsX6_there wsX2_copyFrom := goodIn_r _ [23, 24, 25, 26, 27, 28, 29, 30, 31, 5, 32, 33, 34, 35, 36, 37, 38, 39, 40, 41, 42, 43, 22, 44, 45, 46, 47, 48, 49, 50, 51, 52, 53, 54, 140, 141, 142, 143, 144, 145, 146, 147, 148, 149, 150, 151] (by decide +kernel) (by decide +kernel)
set_option maxRecDepth 20000 in
theorem gX6_there_X2_copyFrom : GoodIn wsX6_there (wsV RX6 201 RX2 yX2_copyFrom wsX2_copyFrom) := goodIn_app (goodIn_of _ (by decide +kernel)) ggX6_there_X2_copyFrom
set_option maxRecDepth 20000 in
theorem ggX6_there_X2_pass : GoodIn wsX6_there wsX2_pass := goodIn_r _ [58, 24, 59, 60, 35, 61, 28, 29, 62, 63, 34, 36, 64, 65, 66, 22, 67, 41, 42, 43, 44, 45, 68, 69, 70, 49, 71, 54, 72, 73, 74, 75, 51, 76, 77, 78, 79, 80, 81, 82, 83, 84, 85, 86, 87, 88, 89, 90, 91, 26, 92, 5, 93, 94, 95, 96, 97, 98, 99, 100, 101, 102, 103, 104, 105, 106, 107, 108, 109, 110, 111, 112, 113, 114, 115, 27, 116, 117, 118, 119, 120, 14, 15, 121, 122, 123, 124, 125, 126, 127, 128, 17, 18, 140, 141, 142, 143, 144, 145, 146, 147, 148, 149, 150, 151] (by decide +kernel) (by decide +kernel)
set_option maxRecDepth 20000 in
theorem gX6_there_X2_pass : GoodIn wsX6_there (wsV RX6 153 RX2 yX2_pass wsX2_pass) := goodIn_app (goodIn_of _ (by decide +kernel)) ggX6_there_X2_pass
set_option maxRecDepth 20000 in
theorem ggX6_there_X2_pathSet : GoodIn wsX6_there wsX2_pathSet := goodIn_r _ [132, 24, 92, 5, 93, 140, 141, 142, 143, 144, 145, 146, 147] (by decide +kernel) (by decide +kernel)
set_option maxRecDepth 20000 in
theorem gX6_there_X2_pathSet : GoodIn wsX6_there (wsV RX6 72 RX2 yX2_pathSet wsX2_pathSet) := goodIn_app (goodIn_of _ (by decide +kernel)) ggX6_there_X2_pathSet
theorem dX6_there_0 : decode cX6_there 0 = .ok (.iload_n 1, 1) := by decide +kernel
theorem dX6_there_1 : decode cX6_there 1 = .ok (.iconst 0, 1) := by decide +kernel
theorem dX6_there_2 : decode cX6_there 2 = .ok (.bipush 60, 2) := by decide +kernel
theorem dX6_there_4 : decode cX6_there 4 = .ok (.invokestatic 44, 3) := by decide +kernel
theorem dX6_there_7 : decode cX6_there 7 = .ok (.ifCond .ne 10, 3) := by decide +kernel
theorem dX6_there_10 : decode cX6_there 10 = .ok (.aload_n 0, 1) := by decide +kernel
theorem dX6_there_11 : decode cX6_there 11 = .ok (.iconst 0, 1) := by decide +kernel
theorem dX6_there_12 : decode cX6_there 12 = .ok (.invokevirtual 48, 3) := by decide +kernel
theorem dX6_there_15 : decode cX6_there 15 = .ok (.i2l, 1) := by decide +kernel
theorem dX6_there_16 : decode cX6_there 16 = .ok (.lreturn, 1) := by decide +kernel
theorem dX6_there_17 : decode cX6_there 17 = .ok (.aload_n 0, 1) := by decide +kernel
theorem dX6_there_18 : decode cX6_there 18 = .ok (.getfield 16, 3) := by decide +kernel
theorem dX6_there_21 : decode cX6_there 21 = .ok (.aload_n 0, 1) := by decide +kernel
theorem dX6_there_22 : decode cX6_there 22 = .ok (.getfield 10, 3) := by decide +kernel
theorem dX6_there_25 : decode cX6_there 25 = .ok (.invokevirtual 201, 3) := by decide +kernel
theorem dX6_there_28 : decode cX6_there 28 = .ok (.aload_n 0, 1) := by decide +kernel
theorem dX6_there_29 : decode cX6_there 29 = .ok (.getfield 16, 3) := by decide +kernel
theorem dX6_there_32 : decode cX6_there 32 = .ok (.iload_n 1, 1) := by decide +kernel
theorem dX6_there_33 : decode cX6_there 33 = .ok (.invokevirtual 153, 3) := by decide +kernel
theorem dX6_there_36 : decode cX6_there 36 = .ok (.aload_n 0, 1) := by decide +kernel
theorem dX6_there_37 : decode cX6_there 37 = .ok (.getfield 16, 3) := by decide +kernel
theorem dX6_there_40 : decode cX6_there 40 = .ok (.invokevirtual 72, 3) := by decide +kernel
theorem dX6_there_43 : decode cX6_there 43 = .ok (.lreturn, 1) := by decide +kernel
set_option maxRecDepth 20000 in
theorem ggX6_kindFor_X2_seedAt : GoodIn wsX6_kindFor wsX2_seedAt := goodIn_r _ [6, 7, 8, 9, 10, 5, 11, 12, 164, 165, 166, 167, 168, 169, 170, 171] (by decide +kernel) (by decide +kernel)
set_option maxRecDepth 20000 in
theorem gX6_kindFor_X2_seedAt : GoodIn wsX6_kindFor (wsV RX6 105 RX2 yX2_seedAt wsX2_seedAt) := goodIn_app (goodIn_of _ (by decide +kernel)) ggX6_kindFor_X2_seedAt
set_option maxRecDepth 20000 in
theorem ggX6_kindFor_X6_within : GoodIn wsX6_kindFor wsX6_within := goodIn_r _ [16] (by decide +kernel) (by decide +kernel)
set_option maxRecDepth 20000 in
theorem gX6_kindFor_X6_within : GoodIn wsX6_kindFor (va_wsS RX6 44 yX6_within wsX6_within) := goodIn_app (goodIn_of _ (by decide +kernel)) ggX6_kindFor_X6_within
set_option maxRecDepth 20000 in
theorem ggX6_kindFor_X6_finding : GoodIn wsX6_kindFor wsX6_finding := goodIn_r _ [20, 21, 22, 23, 24, 15, 25, 26, 27, 28, 157, 158, 159, 160, 161, 162, 163] (by decide +kernel) (by decide +kernel)
set_option maxRecDepth 20000 in
theorem gX6_kindFor_X6_finding : GoodIn wsX6_kindFor (wsV RX6 48 RX6 yX6_finding wsX6_finding) := goodIn_app (goodIn_of _ (by decide +kernel)) ggX6_kindFor_X6_finding
set_option maxRecDepth 20000 in
theorem ggX6_kindFor_X6_mostPath : GoodIn wsX6_kindFor wsX6_mostPath := goodIn_r _ [32, 33, 1, 34, 35, 36, 5, 37, 38, 39, 40, 41, 42, 43, 44, 45, 7, 46, 47, 48, 15, 49, 50, 51, 52, 53, 54, 55, 56, 57, 8, 9, 10, 11, 12, 58, 59, 60, 61, 62, 63, 64, 65, 66, 67, 3, 4, 6, 68, 69, 70, 71, 72, 73, 74, 75, 76, 77, 78, 79, 80, 81, 82, 83, 84, 85, 86, 87, 88, 89, 90, 91, 92, 93, 94, 95, 96, 97, 98, 99, 100, 101, 102, 103, 104, 105, 106, 107, 108, 109, 110, 111, 112, 113, 114, 115, 116, 117, 118, 119, 120, 121, 122, 123, 124, 125, 126, 127, 128, 129, 130, 131, 132, 133, 24, 25, 134, 135, 136, 137, 138, 139, 140, 141, 27, 28, 142, 143, 144, 145, 146, 147, 148, 149, 150, 151, 152, 153, 154, 155, 156, 157, 158, 159, 160, 161, 162, 163, 164, 165, 166, 167, 168, 169, 170, 171, 172, 173, 174, 175] (by decide +kernel) (by decide +kernel)
set_option maxRecDepth 20000 in
theorem gX6_kindFor_X6_mostPath : GoodIn wsX6_kindFor (wsV RX6 209 RX6 yX6_mostPath wsX6_mostPath) := goodIn_app (goodIn_of _ (by decide +kernel)) ggX6_kindFor_X6_mostPath
theorem dX6_kindFor_0 : decode cX6_kindFor 0 = .ok (.aload_n 0, 1) := by decide +kernel
theorem dX6_kindFor_1 : decode cX6_kindFor 1 = .ok (.getfield 10, 3) := by decide +kernel
theorem dX6_kindFor_4 : decode cX6_kindFor 4 = .ok (.iload_n 1, 1) := by decide +kernel
theorem dX6_kindFor_5 : decode cX6_kindFor 5 = .ok (.invokevirtual 105, 3) := by decide +kernel
theorem dX6_kindFor_8 : decode cX6_kindFor 8 = .ok (.ifnull 13, 3) := by decide +kernel
theorem dX6_kindFor_11 : decode cX6_kindFor 11 = .ok (.iload_n 2, 1) := by decide +kernel
theorem dX6_kindFor_12 : decode cX6_kindFor 12 = .ok (.iconst 0, 1) := by decide +kernel
theorem dX6_kindFor_13 : decode cX6_kindFor 13 = .ok (.bipush 60, 2) := by decide +kernel
theorem dX6_kindFor_15 : decode cX6_kindFor 15 = .ok (.invokestatic 44, 3) := by decide +kernel
theorem dX6_kindFor_18 : decode cX6_kindFor 18 = .ok (.ifCond .ne 9, 3) := by decide +kernel
theorem dX6_kindFor_21 : decode cX6_kindFor 21 = .ok (.aload_n 0, 1) := by decide +kernel
theorem dX6_kindFor_22 : decode cX6_kindFor 22 = .ok (.iconst 0, 1) := by decide +kernel
theorem dX6_kindFor_23 : decode cX6_kindFor 23 = .ok (.invokevirtual 48, 3) := by decide +kernel
theorem dX6_kindFor_26 : decode cX6_kindFor 26 = .ok (.ireturn, 1) := by decide +kernel
theorem dX6_kindFor_27 : decode cX6_kindFor 27 = .ok (.aload_n 0, 1) := by decide +kernel
theorem dX6_kindFor_28 : decode cX6_kindFor 28 = .ok (.iload_n 1, 1) := by decide +kernel
theorem dX6_kindFor_29 : decode cX6_kindFor 29 = .ok (.iconst 0, 1) := by decide +kernel
theorem dX6_kindFor_30 : decode cX6_kindFor 30 = .ok (.bipush 7, 2) := by decide +kernel
theorem dX6_kindFor_32 : decode cX6_kindFor 32 = .ok (.iload_n 2, 1) := by decide +kernel
theorem dX6_kindFor_33 : decode cX6_kindFor 33 = .ok (.invokevirtual 209, 3) := by decide +kernel
theorem dX6_kindFor_36 : decode cX6_kindFor 36 = .ok (.ireturn, 1) := by decide +kernel
set_option maxRecDepth 20000 in
theorem ggX6_headingFor_X2_seedAt : GoodIn wsX6_headingFor wsX2_seedAt := goodIn_r _ [6, 7, 8, 9, 10, 5, 11, 12, 164, 165, 166, 167, 168, 169, 170, 171] (by decide +kernel) (by decide +kernel)
set_option maxRecDepth 20000 in
theorem gX6_headingFor_X2_seedAt : GoodIn wsX6_headingFor (wsV RX6 105 RX2 yX2_seedAt wsX2_seedAt) := goodIn_app (goodIn_of _ (by decide +kernel)) ggX6_headingFor_X2_seedAt
set_option maxRecDepth 20000 in
theorem ggX6_headingFor_X6_within : GoodIn wsX6_headingFor wsX6_within := goodIn_r _ [16] (by decide +kernel) (by decide +kernel)
set_option maxRecDepth 20000 in
theorem gX6_headingFor_X6_within : GoodIn wsX6_headingFor (va_wsS RX6 44 yX6_within wsX6_within) := goodIn_app (goodIn_of _ (by decide +kernel)) ggX6_headingFor_X6_within
set_option maxRecDepth 20000 in
theorem ggX6_headingFor_X6_finding : GoodIn wsX6_headingFor wsX6_finding := goodIn_r _ [20, 21, 22, 23, 24, 15, 25, 26, 27, 28, 157, 158, 159, 160, 161, 162, 163] (by decide +kernel) (by decide +kernel)
set_option maxRecDepth 20000 in
theorem gX6_headingFor_X6_finding : GoodIn wsX6_headingFor (wsV RX6 48 RX6 yX6_finding wsX6_finding) := goodIn_app (goodIn_of _ (by decide +kernel)) ggX6_headingFor_X6_finding
set_option maxRecDepth 20000 in
theorem ggX6_headingFor_X6_mostPath : GoodIn wsX6_headingFor wsX6_mostPath := goodIn_r _ [32, 33, 1, 34, 35, 36, 5, 37, 38, 39, 40, 41, 42, 43, 44, 45, 7, 46, 47, 48, 15, 49, 50, 51, 52, 53, 54, 55, 56, 57, 8, 9, 10, 11, 12, 58, 59, 60, 61, 62, 63, 64, 65, 66, 67, 3, 4, 6, 68, 69, 70, 71, 72, 73, 74, 75, 76, 77, 78, 79, 80, 81, 82, 83, 84, 85, 86, 87, 88, 89, 90, 91, 92, 93, 94, 95, 96, 97, 98, 99, 100, 101, 102, 103, 104, 105, 106, 107, 108, 109, 110, 111, 112, 113, 114, 115, 116, 117, 118, 119, 120, 121, 122, 123, 124, 125, 126, 127, 128, 129, 130, 131, 132, 133, 24, 25, 134, 135, 136, 137, 138, 139, 140, 141, 27, 28, 142, 143, 144, 145, 146, 147, 148, 149, 150, 151, 152, 153, 154, 155, 156, 157, 158, 159, 160, 161, 162, 163, 164, 165, 166, 167, 168, 169, 170, 171, 172, 173, 174, 175] (by decide +kernel) (by decide +kernel)
set_option maxRecDepth 20000 in
theorem gX6_headingFor_X6_mostPath : GoodIn wsX6_headingFor (wsV RX6 209 RX6 yX6_mostPath wsX6_mostPath) := goodIn_app (goodIn_of _ (by decide +kernel)) ggX6_headingFor_X6_mostPath
theorem dX6_headingFor_0 : decode cX6_headingFor 0 = .ok (.aload_n 0, 1) := by decide +kernel
theorem dX6_headingFor_1 : decode cX6_headingFor 1 = .ok (.getfield 10, 3) := by decide +kernel
theorem dX6_headingFor_4 : decode cX6_headingFor 4 = .ok (.iload_n 1, 1) := by decide +kernel
theorem dX6_headingFor_5 : decode cX6_headingFor 5 = .ok (.invokevirtual 105, 3) := by decide +kernel
theorem dX6_headingFor_8 : decode cX6_headingFor 8 = .ok (.ifnull 13, 3) := by decide +kernel
theorem dX6_headingFor_11 : decode cX6_headingFor 11 = .ok (.iload_n 2, 1) := by decide +kernel
theorem dX6_headingFor_12 : decode cX6_headingFor 12 = .ok (.iconst 0, 1) := by decide +kernel
theorem dX6_headingFor_13 : decode cX6_headingFor 13 = .ok (.bipush 60, 2) := by decide +kernel
theorem dX6_headingFor_15 : decode cX6_headingFor 15 = .ok (.invokestatic 44, 3) := by decide +kernel
theorem dX6_headingFor_18 : decode cX6_headingFor 18 = .ok (.ifCond .ne 9, 3) := by decide +kernel
theorem dX6_headingFor_21 : decode cX6_headingFor 21 = .ok (.aload_n 0, 1) := by decide +kernel
theorem dX6_headingFor_22 : decode cX6_headingFor 22 = .ok (.iconst 0, 1) := by decide +kernel
theorem dX6_headingFor_23 : decode cX6_headingFor 23 = .ok (.invokevirtual 48, 3) := by decide +kernel
theorem dX6_headingFor_26 : decode cX6_headingFor 26 = .ok (.ireturn, 1) := by decide +kernel
theorem dX6_headingFor_27 : decode cX6_headingFor 27 = .ok (.aload_n 0, 1) := by decide +kernel
theorem dX6_headingFor_28 : decode cX6_headingFor 28 = .ok (.iload_n 1, 1) := by decide +kernel
theorem dX6_headingFor_29 : decode cX6_headingFor 29 = .ok (.iconst 2, 1) := by decide +kernel
theorem dX6_headingFor_30 : decode cX6_headingFor 30 = .ok (.iconst 4, 1) := by decide +kernel
theorem dX6_headingFor_31 : decode cX6_headingFor 31 = .ok (.iload_n 2, 1) := by decide +kernel
theorem dX6_headingFor_32 : decode cX6_headingFor 32 = .ok (.invokevirtual 209, 3) := by decide +kernel
theorem dX6_headingFor_35 : decode cX6_headingFor 35 = .ok (.ireturn, 1) := by decide +kernel
set_option maxRecDepth 20000 in
theorem ggX6_sowFor_X6_isKind : GoodIn wsX6_sowFor wsX6_isKind := goodIn_r _ [6, 7, 8, 5, 9] (by decide +kernel) (by decide +kernel)
set_option maxRecDepth 20000 in
theorem gX6_sowFor_X6_isKind : GoodIn wsX6_sowFor (va_wsS RX6 91 yX6_isKind wsX6_isKind) := goodIn_app (goodIn_of _ (by decide +kernel)) ggX6_sowFor_X6_isKind
set_option maxRecDepth 20000 in
theorem ggX6_sowFor_X6_isCell : GoodIn wsX6_sowFor wsX6_isCell := goodIn_r _ [12, 7, 8, 5, 9] (by decide +kernel) (by decide +kernel)
set_option maxRecDepth 20000 in
theorem gX6_sowFor_X6_isCell : GoodIn wsX6_sowFor (va_wsS RX6 40 yX6_isCell wsX6_isCell) := goodIn_app (goodIn_of _ (by decide +kernel)) ggX6_sowFor_X6_isCell
set_option maxRecDepth 20000 in
theorem ggX6_sowFor_X6_within : GoodIn wsX6_sowFor wsX6_within := goodIn_r _ [9] (by decide +kernel) (by decide +kernel)
set_option maxRecDepth 20000 in
theorem gX6_sowFor_X6_within : GoodIn wsX6_sowFor (va_wsS RX6 44 yX6_within wsX6_within) := goodIn_app (goodIn_of _ (by decide +kernel)) ggX6_sowFor_X6_within
set_option maxRecDepth 20000 in
theorem ggX6_sowFor_X6_finding : GoodIn wsX6_sowFor wsX6_finding := goodIn_r _ [16, 17, 18, 19, 20, 5, 21, 22, 23, 24, 163, 164, 165, 166, 167, 168, 169] (by decide +kernel) (by decide +kernel)
set_option maxRecDepth 20000 in
theorem gX6_sowFor_X6_finding : GoodIn wsX6_sowFor (wsV RX6 48 RX6 yX6_finding wsX6_finding) := goodIn_app (goodIn_of _ (by decide +kernel)) ggX6_sowFor_X6_finding
set_option maxRecDepth 20000 in
theorem ggX6_sowFor_X2_isFull : GoodIn wsX6_sowFor wsX2_isFull := goodIn_r _ [29, 30, 170, 171, 172, 173, 174, 175, 176, 177] (by decide +kernel) (by decide +kernel)
set_option maxRecDepth 20000 in
theorem gX6_sowFor_X2_isFull : GoodIn wsX6_sowFor (wsV RX6 97 RX2 yX2_isFull wsX2_isFull) := goodIn_app (goodIn_of _ (by decide +kernel)) ggX6_sowFor_X2_isFull
set_option maxRecDepth 20000 in
theorem ggX6_sowFor_X2_isGrass : GoodIn wsX6_sowFor wsX2_isGrass := goodIn_r _ [34, 35, 36, 37, 28, 38, 39, 40, 41, 42, 43, 5, 44, 170, 171, 172, 173, 174, 175, 176, 177] (by decide +kernel) (by decide +kernel)
set_option maxRecDepth 20000 in
theorem gX6_sowFor_X2_isGrass : GoodIn wsX6_sowFor (wsV RX6 85 RX2 yX2_isGrass wsX2_isGrass) := goodIn_app (goodIn_of _ (by decide +kernel)) ggX6_sowFor_X2_isGrass
set_option maxRecDepth 20000 in
theorem ggX6_sowFor_X2_copyFrom : GoodIn wsX6_sowFor wsX2_copyFrom := goodIn_r _ [48, 49, 50, 40, 41, 30, 51, 52, 53, 5, 54, 55, 56, 57, 58, 59, 60, 61, 62, 63, 64, 65, 28, 66, 67, 68, 69, 70, 71, 72, 73, 74, 75, 76, 170, 171, 172, 173, 174, 175, 176, 177, 178, 179, 180, 181] (by decide +kernel) (by decide +kernel)
set_option maxRecDepth 20000 in
theorem gX6_sowFor_X2_copyFrom : GoodIn wsX6_sowFor (wsV RX6 201 RX2 yX2_copyFrom wsX2_copyFrom) := goodIn_app (goodIn_of _ (by decide +kernel)) ggX6_sowFor_X2_copyFrom
set_option maxRecDepth 20000 in
theorem ggX6_sowFor_X2_plant : GoodIn wsX6_sowFor wsX2_plant := goodIn_r _ [80, 30, 63, 64, 65, 28, 66, 67, 170, 171, 172, 173, 174, 175, 176, 177, 178, 179, 180, 181] (by decide +kernel) (by decide +kernel)
set_option maxRecDepth 20000 in
theorem gX6_sowFor_X2_plant : GoodIn wsX6_sowFor (wsV RX6 101 RX2 yX2_plant wsX2_plant) := goodIn_app (goodIn_of _ (by decide +kernel)) ggX6_sowFor_X2_plant
set_option maxRecDepth 20000 in
theorem ggX6_sowFor_X2_pass : GoodIn wsX6_sowFor wsX2_pass := goodIn_r _ [84, 49, 85, 86, 57, 87, 30, 51, 88, 89, 56, 58, 90, 91, 92, 28, 93, 63, 64, 65, 66, 67, 94, 95, 96, 71, 97, 76, 98, 99, 100, 101, 73, 102, 103, 104, 105, 106, 107, 108, 109, 110, 111, 112, 113, 114, 115, 116, 117, 40, 43, 5, 44, 118, 119, 120, 121, 122, 123, 124, 125, 126, 127, 128, 129, 130, 131, 32, 33, 34, 35, 36, 37, 38, 39, 41, 42, 132, 133, 134, 135, 20, 21, 136, 137, 138, 139, 140, 141, 142, 143, 23, 24, 170, 171, 172, 173, 174, 175, 176, 177, 178, 179, 180, 181] (by decide +kernel) (by decide +kernel)
set_option maxRecDepth 20000 in
theorem gX6_sowFor_X2_pass : GoodIn wsX6_sowFor (wsV RX6 153 RX2 yX2_pass wsX2_pass) := goodIn_app (goodIn_of _ (by decide +kernel)) ggX6_sowFor_X2_pass
set_option maxRecDepth 20000 in
theorem ggX6_sowFor_X2_pathSet : GoodIn wsX6_sowFor wsX2_pathSet := goodIn_r _ [147, 49, 43, 5, 44, 170, 171, 172, 173, 174, 175, 176, 177] (by decide +kernel) (by decide +kernel)
set_option maxRecDepth 20000 in
theorem gX6_sowFor_X2_pathSet : GoodIn wsX6_sowFor (wsV RX6 72 RX2 yX2_pathSet wsX2_pathSet) := goodIn_app (goodIn_of _ (by decide +kernel)) ggX6_sowFor_X2_pathSet
set_option maxRecDepth 20000 in
theorem ggX6_sowFor_X0_areJoined : GoodIn wsX6_sowFor wsX0_areJoined := goodIn_r _ [150, 151, 152, 112, 153, 43, 5, 44, 154, 155, 156, 157, 158, 159, 160, 161, 162] (by decide +kernel) (by decide +kernel)
set_option maxRecDepth 20000 in
theorem gX6_sowFor_X0_areJoined : GoodIn wsX6_sowFor (va_wsS RX6 205 yX0_areJoined wsX0_areJoined) := goodIn_app (goodIn_of _ (by decide +kernel)) ggX6_sowFor_X0_areJoined
theorem dX6_sowFor_0 : decode cX6_sowFor 0 = .ok (.iload_n 1, 1) := by decide +kernel
theorem dX6_sowFor_1 : decode cX6_sowFor 1 = .ok (.invokestatic 91, 3) := by decide +kernel
theorem dX6_sowFor_4 : decode cX6_sowFor 4 = .ok (.ifCond .eq 28, 3) := by decide +kernel
theorem dX6_sowFor_7 : decode cX6_sowFor 7 = .ok (.iload_n 2, 1) := by decide +kernel
theorem dX6_sowFor_8 : decode cX6_sowFor 8 = .ok (.invokestatic 40, 3) := by decide +kernel
theorem dX6_sowFor_11 : decode cX6_sowFor 11 = .ok (.ifCond .eq 21, 3) := by decide +kernel
theorem dX6_sowFor_14 : decode cX6_sowFor 14 = .ok (.iload_n 3, 1) := by decide +kernel
theorem dX6_sowFor_15 : decode cX6_sowFor 15 = .ok (.invokestatic 40, 3) := by decide +kernel
theorem dX6_sowFor_18 : decode cX6_sowFor 18 = .ok (.ifCond .eq 14, 3) := by decide +kernel
theorem dX6_sowFor_21 : decode cX6_sowFor 21 = .ok (.iload 4, 2) := by decide +kernel
theorem dX6_sowFor_23 : decode cX6_sowFor 23 = .ok (.iconst 0, 1) := by decide +kernel
theorem dX6_sowFor_24 : decode cX6_sowFor 24 = .ok (.bipush 30, 2) := by decide +kernel
theorem dX6_sowFor_26 : decode cX6_sowFor 26 = .ok (.invokestatic 44, 3) := by decide +kernel
theorem dX6_sowFor_29 : decode cX6_sowFor 29 = .ok (.ifCond .ne 9, 3) := by decide +kernel
theorem dX6_sowFor_32 : decode cX6_sowFor 32 = .ok (.aload_n 0, 1) := by decide +kernel
theorem dX6_sowFor_33 : decode cX6_sowFor 33 = .ok (.iconst 0, 1) := by decide +kernel
theorem dX6_sowFor_34 : decode cX6_sowFor 34 = .ok (.invokevirtual 48, 3) := by decide +kernel
theorem dX6_sowFor_37 : decode cX6_sowFor 37 = .ok (.ireturn, 1) := by decide +kernel
theorem dX6_sowFor_38 : decode cX6_sowFor 38 = .ok (.aload_n 0, 1) := by decide +kernel
theorem dX6_sowFor_39 : decode cX6_sowFor 39 = .ok (.getfield 10, 3) := by decide +kernel
theorem dX6_sowFor_42 : decode cX6_sowFor 42 = .ok (.invokevirtual 97, 3) := by decide +kernel
theorem dX6_sowFor_45 : decode cX6_sowFor 45 = .ok (.ifCond .eq 9, 3) := by decide +kernel
theorem dX6_sowFor_48 : decode cX6_sowFor 48 = .ok (.aload_n 0, 1) := by decide +kernel
theorem dX6_sowFor_49 : decode cX6_sowFor 49 = .ok (.iconst 1, 1) := by decide +kernel
theorem dX6_sowFor_50 : decode cX6_sowFor 50 = .ok (.invokevirtual 48, 3) := by decide +kernel
theorem dX6_sowFor_53 : decode cX6_sowFor 53 = .ok (.ireturn, 1) := by decide +kernel
theorem dX6_sowFor_54 : decode cX6_sowFor 54 = .ok (.iconst 0, 1) := by decide +kernel
theorem dX6_sowFor_55 : decode cX6_sowFor 55 = .ok (.istore 5, 2) := by decide +kernel
theorem dX6_sowFor_57 : decode cX6_sowFor 57 = .ok (.iload 5, 2) := by decide +kernel
theorem dX6_sowFor_59 : decode cX6_sowFor 59 = .ok (.bipush 36, 2) := by decide +kernel
theorem dX6_sowFor_61 : decode cX6_sowFor 61 = .ok (.if_icmp .ge 72, 3) := by decide +kernel
theorem dX6_sowFor_64 : decode cX6_sowFor 64 = .ok (.aload_n 0, 1) := by decide +kernel
theorem dX6_sowFor_65 : decode cX6_sowFor 65 = .ok (.getfield 10, 3) := by decide +kernel
theorem dX6_sowFor_68 : decode cX6_sowFor 68 = .ok (.iload 5, 2) := by decide +kernel
theorem dX6_sowFor_70 : decode cX6_sowFor 70 = .ok (.invokevirtual 85, 3) := by decide +kernel
theorem dX6_sowFor_73 : decode cX6_sowFor 73 = .ok (.ifCond .eq 54, 3) := by decide +kernel
theorem dX6_sowFor_76 : decode cX6_sowFor 76 = .ok (.aload_n 0, 1) := by decide +kernel
theorem dX6_sowFor_77 : decode cX6_sowFor 77 = .ok (.getfield 16, 3) := by decide +kernel
theorem dX6_sowFor_80 : decode cX6_sowFor 80 = .ok (.aload_n 0, 1) := by decide +kernel
theorem dX6_sowFor_81 : decode cX6_sowFor 81 = .ok (.getfield 10, 3) := by decide +kernel
theorem dX6_sowFor_84 : decode cX6_sowFor 84 = .ok (.invokevirtual 201, 3) := by decide +kernel
theorem dX6_sowFor_87 : decode cX6_sowFor 87 = .ok (.aload_n 0, 1) := by decide +kernel
theorem dX6_sowFor_88 : decode cX6_sowFor 88 = .ok (.getfield 16, 3) := by decide +kernel
theorem dX6_sowFor_91 : decode cX6_sowFor 91 = .ok (.iload_n 1, 1) := by decide +kernel
theorem dX6_sowFor_92 : decode cX6_sowFor 92 = .ok (.iload 5, 2) := by decide +kernel
theorem dX6_sowFor_94 : decode cX6_sowFor 94 = .ok (.iconst 0, 1) := by decide +kernel
theorem dX6_sowFor_95 : decode cX6_sowFor 95 = .ok (.iconst 0, 1) := by decide +kernel
theorem dX6_sowFor_96 : decode cX6_sowFor 96 = .ok (.invokevirtual 101, 3) := by decide +kernel
theorem dX6_sowFor_99 : decode cX6_sowFor 99 = .ok (.pop, 1) := by decide +kernel
theorem dX6_sowFor_100 : decode cX6_sowFor 100 = .ok (.aload_n 0, 1) := by decide +kernel
theorem dX6_sowFor_101 : decode cX6_sowFor 101 = .ok (.getfield 16, 3) := by decide +kernel
theorem dX6_sowFor_104 : decode cX6_sowFor 104 = .ok (.iload 4, 2) := by decide +kernel
theorem dX6_sowFor_106 : decode cX6_sowFor 106 = .ok (.invokevirtual 153, 3) := by decide +kernel
theorem dX6_sowFor_109 : decode cX6_sowFor 109 = .ok (.iload_n 2, 1) := by decide +kernel
theorem dX6_sowFor_110 : decode cX6_sowFor 110 = .ok (.iload_n 3, 1) := by decide +kernel
theorem dX6_sowFor_111 : decode cX6_sowFor 111 = .ok (.aload_n 0, 1) := by decide +kernel
theorem dX6_sowFor_112 : decode cX6_sowFor 112 = .ok (.getfield 16, 3) := by decide +kernel
theorem dX6_sowFor_115 : decode cX6_sowFor 115 = .ok (.invokevirtual 72, 3) := by decide +kernel
theorem dX6_sowFor_118 : decode cX6_sowFor 118 = .ok (.invokestatic 205, 3) := by decide +kernel
theorem dX6_sowFor_121 : decode cX6_sowFor 121 = .ok (.ifCond .eq 6, 3) := by decide +kernel
theorem dX6_sowFor_124 : decode cX6_sowFor 124 = .ok (.iload 5, 2) := by decide +kernel
theorem dX6_sowFor_126 : decode cX6_sowFor 126 = .ok (.ireturn, 1) := by decide +kernel
theorem dX6_sowFor_127 : decode cX6_sowFor 127 = .ok (.iinc 5 1, 3) := by decide +kernel
theorem dX6_sowFor_130 : decode cX6_sowFor 130 = .ok (.goto (-73), 3) := by decide +kernel
theorem dX6_sowFor_133 : decode cX6_sowFor 133 = .ok (.aload_n 0, 1) := by decide +kernel
theorem dX6_sowFor_134 : decode cX6_sowFor 134 = .ok (.iconst 3, 1) := by decide +kernel
theorem dX6_sowFor_135 : decode cX6_sowFor 135 = .ok (.invokevirtual 48, 3) := by decide +kernel
theorem dX6_sowFor_138 : decode cX6_sowFor 138 = .ok (.ireturn, 1) := by decide +kernel
set_option maxRecDepth 20000 in
theorem ggX6_without_X6_within : GoodIn wsX6_without wsX6_within := goodIn_r _ [6] (by decide +kernel) (by decide +kernel)
set_option maxRecDepth 20000 in
theorem gX6_without_X6_within : GoodIn wsX6_without (va_wsS RX6 44 yX6_within wsX6_within) := goodIn_app (goodIn_of _ (by decide +kernel)) ggX6_without_X6_within
set_option maxRecDepth 20000 in
theorem ggX6_without_X6_finding : GoodIn wsX6_without wsX6_finding := goodIn_r _ [10, 11, 12, 13, 14, 5, 15, 16, 17, 18, 152, 153, 154, 155, 156, 157, 158] (by decide +kernel) (by decide +kernel)
set_option maxRecDepth 20000 in
theorem gX6_without_X6_finding : GoodIn wsX6_without (wsV RX6 48 RX6 yX6_finding wsX6_finding) := goodIn_app (goodIn_of _ (by decide +kernel)) ggX6_without_X6_finding
set_option maxRecDepth 20000 in
theorem ggX6_without_X2_copyWith : GoodIn wsX6_without wsX2_copyWith := goodIn_r _ [23, 24, 25, 26, 22, 27, 28, 29, 30, 31, 32, 33, 34, 35, 5, 36, 37, 38, 39, 40, 41, 42, 43, 44, 45, 46, 47, 48, 49, 50, 51, 52, 53, 54, 55, 56, 57, 58, 59, 60, 61, 62, 63, 64, 65, 66, 159, 160, 161, 162, 163, 164, 165, 166, 167, 168, 169, 170] (by decide +kernel) (by decide +kernel)
set_option maxRecDepth 20000 in
theorem gX6_without_X2_copyWith : GoodIn wsX6_without (wsV RX6 215 RX2 yX2_copyWith wsX2_copyWith) := goodIn_app (goodIn_of _ (by decide +kernel)) ggX6_without_X2_copyWith
set_option maxRecDepth 20000 in
theorem ggX6_without_X2_pass : GoodIn wsX6_without wsX2_pass := goodIn_r _ [70, 28, 71, 72, 39, 73, 32, 33, 74, 75, 38, 40, 59, 60, 61, 22, 62, 45, 46, 47, 48, 49, 76, 77, 78, 53, 79, 58, 80, 81, 82, 83, 55, 84, 85, 86, 87, 88, 89, 90, 91, 92, 93, 94, 95, 96, 97, 98, 99, 30, 100, 5, 101, 102, 103, 104, 105, 106, 107, 108, 109, 110, 111, 112, 113, 114, 115, 116, 117, 118, 119, 120, 121, 122, 123, 31, 124, 125, 126, 127, 128, 14, 15, 129, 130, 131, 132, 133, 134, 135, 136, 17, 18, 159, 160, 161, 162, 163, 164, 165, 166, 167, 168, 169, 170] (by decide +kernel) (by decide +kernel)
set_option maxRecDepth 20000 in
theorem gX6_without_X2_pass : GoodIn wsX6_without (wsV RX6 153 RX2 yX2_pass wsX2_pass) := goodIn_app (goodIn_of _ (by decide +kernel)) ggX6_without_X2_pass
set_option maxRecDepth 20000 in
theorem ggX6_without_X2_pathCells : GoodIn wsX6_without wsX2_pathCells := goodIn_r _ [140, 141, 142, 143, 22, 144, 28, 100, 5, 101, 145, 146, 147, 148, 149, 150, 151, 159, 160, 161, 162, 163, 164, 165, 166] (by decide +kernel) (by decide +kernel)
set_option maxRecDepth 20000 in
theorem gX6_without_X2_pathCells : GoodIn wsX6_without (wsV RX6 157 RX2 yX2_pathCells wsX2_pathCells) := goodIn_app (goodIn_of _ (by decide +kernel)) ggX6_without_X2_pathCells
theorem dX6_without_0 : decode cX6_without 0 = .ok (.iload_n 1, 1) := by decide +kernel
theorem dX6_without_1 : decode cX6_without 1 = .ok (.iconst 0, 1) := by decide +kernel
theorem dX6_without_2 : decode cX6_without 2 = .ok (.bipush 60, 2) := by decide +kernel
theorem dX6_without_4 : decode cX6_without 4 = .ok (.invokestatic 44, 3) := by decide +kernel
theorem dX6_without_7 : decode cX6_without 7 = .ok (.ifCond .ne 9, 3) := by decide +kernel
theorem dX6_without_10 : decode cX6_without 10 = .ok (.aload_n 0, 1) := by decide +kernel
theorem dX6_without_11 : decode cX6_without 11 = .ok (.iconst 0, 1) := by decide +kernel
theorem dX6_without_12 : decode cX6_without 12 = .ok (.invokevirtual 48, 3) := by decide +kernel
theorem dX6_without_15 : decode cX6_without 15 = .ok (.ireturn, 1) := by decide +kernel
theorem dX6_without_16 : decode cX6_without 16 = .ok (.iconst (-1), 1) := by decide +kernel
theorem dX6_without_17 : decode cX6_without 17 = .ok (.istore_n 2, 1) := by decide +kernel
theorem dX6_without_18 : decode cX6_without 18 = .ok (.bipush 37, 2) := by decide +kernel
theorem dX6_without_20 : decode cX6_without 20 = .ok (.istore_n 3, 1) := by decide +kernel
theorem dX6_without_21 : decode cX6_without 21 = .ok (.iconst 0, 1) := by decide +kernel
theorem dX6_without_22 : decode cX6_without 22 = .ok (.istore 4, 2) := by decide +kernel
theorem dX6_without_24 : decode cX6_without 24 = .ok (.iload 4, 2) := by decide +kernel
theorem dX6_without_26 : decode cX6_without 26 = .ok (.aload_n 0, 1) := by decide +kernel
theorem dX6_without_27 : decode cX6_without 27 = .ok (.getfield 10, 3) := by decide +kernel
theorem dX6_without_30 : decode cX6_without 30 = .ok (.getfield 212, 3) := by decide +kernel
theorem dX6_without_33 : decode cX6_without 33 = .ok (.if_icmp .ge 55, 3) := by decide +kernel
theorem dX6_without_36 : decode cX6_without 36 = .ok (.aload_n 0, 1) := by decide +kernel
theorem dX6_without_37 : decode cX6_without 37 = .ok (.getfield 16, 3) := by decide +kernel
theorem dX6_without_40 : decode cX6_without 40 = .ok (.aload_n 0, 1) := by decide +kernel
theorem dX6_without_41 : decode cX6_without 41 = .ok (.getfield 10, 3) := by decide +kernel
theorem dX6_without_44 : decode cX6_without 44 = .ok (.iload 4, 2) := by decide +kernel
theorem dX6_without_46 : decode cX6_without 46 = .ok (.iconst 3, 1) := by decide +kernel
theorem dX6_without_47 : decode cX6_without 47 = .ok (.sipush 999, 3) := by decide +kernel
theorem dX6_without_50 : decode cX6_without 50 = .ok (.invokevirtual 215, 3) := by decide +kernel
theorem dX6_without_53 : decode cX6_without 53 = .ok (.aload_n 0, 1) := by decide +kernel
theorem dX6_without_54 : decode cX6_without 54 = .ok (.getfield 16, 3) := by decide +kernel
theorem dX6_without_57 : decode cX6_without 57 = .ok (.iload_n 1, 1) := by decide +kernel
theorem dX6_without_58 : decode cX6_without 58 = .ok (.invokevirtual 153, 3) := by decide +kernel
theorem dX6_without_61 : decode cX6_without 61 = .ok (.aload_n 0, 1) := by decide +kernel
theorem dX6_without_62 : decode cX6_without 62 = .ok (.getfield 16, 3) := by decide +kernel
theorem dX6_without_65 : decode cX6_without 65 = .ok (.invokevirtual 157, 3) := by decide +kernel
theorem dX6_without_68 : decode cX6_without 68 = .ok (.istore 5, 2) := by decide +kernel
theorem dX6_without_70 : decode cX6_without 70 = .ok (.iload 5, 2) := by decide +kernel
theorem dX6_without_72 : decode cX6_without 72 = .ok (.iload_n 3, 1) := by decide +kernel
theorem dX6_without_73 : decode cX6_without 73 = .ok (.if_icmp .ge 9, 3) := by decide +kernel
theorem dX6_without_76 : decode cX6_without 76 = .ok (.iload 5, 2) := by decide +kernel
theorem dX6_without_78 : decode cX6_without 78 = .ok (.istore_n 3, 1) := by decide +kernel
theorem dX6_without_79 : decode cX6_without 79 = .ok (.iload 4, 2) := by decide +kernel
theorem dX6_without_81 : decode cX6_without 81 = .ok (.istore_n 2, 1) := by decide +kernel
theorem dX6_without_82 : decode cX6_without 82 = .ok (.iinc 4 1, 3) := by decide +kernel
theorem dX6_without_85 : decode cX6_without 85 = .ok (.goto (-61), 3) := by decide +kernel
theorem dX6_without_88 : decode cX6_without 88 = .ok (.iload_n 2, 1) := by decide +kernel
theorem dX6_without_89 : decode cX6_without 89 = .ok (.ifCond .ge 11, 3) := by decide +kernel
theorem dX6_without_92 : decode cX6_without 92 = .ok (.aload_n 0, 1) := by decide +kernel
theorem dX6_without_93 : decode cX6_without 93 = .ok (.iconst 3, 1) := by decide +kernel
theorem dX6_without_94 : decode cX6_without 94 = .ok (.invokevirtual 48, 3) := by decide +kernel
theorem dX6_without_97 : decode cX6_without 97 = .ok (.goto 4, 3) := by decide +kernel
theorem dX6_without_100 : decode cX6_without 100 = .ok (.iload_n 2, 1) := by decide +kernel
theorem dX6_without_101 : decode cX6_without 101 = .ok (.ireturn, 1) := by decide +kernel
set_option maxRecDepth 20000 in
theorem ggX6_weed_X2_pathSet : GoodIn wsX6_weed wsX2_pathSet := goodIn_r _ [7, 8, 9, 10, 11, 46, 47, 48, 49, 50, 51, 52, 53] (by decide +kernel) (by decide +kernel)
set_option maxRecDepth 20000 in
theorem gX6_weed_X2_pathSet : GoodIn wsX6_weed (wsV RX6 72 RX2 yX2_pathSet wsX2_pathSet) := goodIn_app (goodIn_of _ (by decide +kernel)) ggX6_weed_X2_pathSet
set_option maxRecDepth 20000 in
theorem ggX6_weed_X6_bit : GoodIn wsX6_weed wsX6_bit := goodIn_r _ [11] (by decide +kernel) (by decide +kernel)
set_option maxRecDepth 20000 in
theorem gX6_weed_X6_bit : GoodIn wsX6_weed (va_wsS RX6 62 yX6_bit wsX6_bit) := goodIn_app (goodIn_of _ (by decide +kernel)) ggX6_weed_X6_bit
set_option maxRecDepth 20000 in
theorem ggX6_weed_X0_countGroups : GoodIn wsX6_weed wsX0_countGroups := goodIn_r _ [16, 17, 18, 19, 15, 20, 21, 22, 23, 24, 25, 26] (by decide +kernel) (by decide +kernel)
set_option maxRecDepth 20000 in
theorem gX6_weed_X0_countGroups : GoodIn wsX6_weed (va_wsS RX6 184 yX0_countGroups wsX0_countGroups) := goodIn_app (goodIn_of _ (by decide +kernel)) ggX6_weed_X0_countGroups
set_option maxRecDepth 20000 in
theorem ggX6_weed_X6_finding : GoodIn wsX6_weed wsX6_finding := goodIn_r _ [30, 31, 32, 33, 34, 10, 35, 36, 37, 38, 39, 40, 41, 42, 43, 44, 45] (by decide +kernel) (by decide +kernel)
set_option maxRecDepth 20000 in
theorem gX6_weed_X6_finding : GoodIn wsX6_weed (wsV RX6 48 RX6 yX6_finding wsX6_finding) := goodIn_app (goodIn_of _ (by decide +kernel)) ggX6_weed_X6_finding
theorem dX6_weed_0 : decode cX6_weed 0 = .ok (.aload_n 0, 1) := by decide +kernel
theorem dX6_weed_1 : decode cX6_weed 1 = .ok (.getfield 10, 3) := by decide +kernel
theorem dX6_weed_4 : decode cX6_weed 4 = .ok (.invokevirtual 72, 3) := by decide +kernel
theorem dX6_weed_7 : decode cX6_weed 7 = .ok (.lstore_n 1, 1) := by decide +kernel
theorem dX6_weed_8 : decode cX6_weed 8 = .ok (.iconst (-1), 1) := by decide +kernel
theorem dX6_weed_9 : decode cX6_weed 9 = .ok (.istore_n 3, 1) := by decide +kernel
theorem dX6_weed_10 : decode cX6_weed 10 = .ok (.iconst (-1), 1) := by decide +kernel
theorem dX6_weed_11 : decode cX6_weed 11 = .ok (.istore 4, 2) := by decide +kernel
theorem dX6_weed_13 : decode cX6_weed 13 = .ok (.iconst 0, 1) := by decide +kernel
theorem dX6_weed_14 : decode cX6_weed 14 = .ok (.istore 5, 2) := by decide +kernel
theorem dX6_weed_16 : decode cX6_weed 16 = .ok (.iload 5, 2) := by decide +kernel
theorem dX6_weed_18 : decode cX6_weed 18 = .ok (.bipush 36, 2) := by decide +kernel
theorem dX6_weed_20 : decode cX6_weed 20 = .ok (.if_icmp .ge 51, 3) := by decide +kernel
theorem dX6_weed_23 : decode cX6_weed 23 = .ok (.lload_n 1, 1) := by decide +kernel
theorem dX6_weed_24 : decode cX6_weed 24 = .ok (.iload 5, 2) := by decide +kernel
theorem dX6_weed_26 : decode cX6_weed 26 = .ok (.invokestatic 62, 3) := by decide +kernel
theorem dX6_weed_29 : decode cX6_weed 29 = .ok (.land, 1) := by decide +kernel
theorem dX6_weed_30 : decode cX6_weed 30 = .ok (.lconst 0, 1) := by decide +kernel
theorem dX6_weed_31 : decode cX6_weed 31 = .ok (.lcmp, 1) := by decide +kernel
theorem dX6_weed_32 : decode cX6_weed 32 = .ok (.ifCond .eq 33, 3) := by decide +kernel
theorem dX6_weed_35 : decode cX6_weed 35 = .ok (.lload_n 1, 1) := by decide +kernel
theorem dX6_weed_36 : decode cX6_weed 36 = .ok (.iload 5, 2) := by decide +kernel
theorem dX6_weed_38 : decode cX6_weed 38 = .ok (.invokestatic 62, 3) := by decide +kernel
theorem dX6_weed_41 : decode cX6_weed 41 = .ok (.ldc2_w 219, 3) := by decide +kernel
theorem dX6_weed_44 : decode cX6_weed 44 = .ok (.lxor, 1) := by decide +kernel
theorem dX6_weed_45 : decode cX6_weed 45 = .ok (.land, 1) := by decide +kernel
theorem dX6_weed_46 : decode cX6_weed 46 = .ok (.invokestatic 184, 3) := by decide +kernel
theorem dX6_weed_49 : decode cX6_weed 49 = .ok (.istore 6, 2) := by decide +kernel
theorem dX6_weed_51 : decode cX6_weed 51 = .ok (.iload 6, 2) := by decide +kernel
theorem dX6_weed_53 : decode cX6_weed 53 = .ok (.iload 4, 2) := by decide +kernel
theorem dX6_weed_55 : decode cX6_weed 55 = .ok (.if_icmp .le 10, 3) := by decide +kernel
theorem dX6_weed_58 : decode cX6_weed 58 = .ok (.iload 6, 2) := by decide +kernel
theorem dX6_weed_60 : decode cX6_weed 60 = .ok (.istore 4, 2) := by decide +kernel
theorem dX6_weed_62 : decode cX6_weed 62 = .ok (.iload 5, 2) := by decide +kernel
theorem dX6_weed_64 : decode cX6_weed 64 = .ok (.istore_n 3, 1) := by decide +kernel
theorem dX6_weed_65 : decode cX6_weed 65 = .ok (.iinc 5 1, 3) := by decide +kernel
theorem dX6_weed_68 : decode cX6_weed 68 = .ok (.goto (-52), 3) := by decide +kernel
theorem dX6_weed_71 : decode cX6_weed 71 = .ok (.iload_n 3, 1) := by decide +kernel
theorem dX6_weed_72 : decode cX6_weed 72 = .ok (.ifCond .ge 11, 3) := by decide +kernel
theorem dX6_weed_75 : decode cX6_weed 75 = .ok (.aload_n 0, 1) := by decide +kernel
theorem dX6_weed_76 : decode cX6_weed 76 = .ok (.iconst 3, 1) := by decide +kernel
theorem dX6_weed_77 : decode cX6_weed 77 = .ok (.invokevirtual 48, 3) := by decide +kernel
theorem dX6_weed_80 : decode cX6_weed 80 = .ok (.goto 4, 3) := by decide +kernel
theorem dX6_weed_83 : decode cX6_weed 83 = .ok (.iload_n 3, 1) := by decide +kernel
theorem dX6_weed_84 : decode cX6_weed 84 = .ok (.ireturn, 1) := by decide +kernel
set_option maxRecDepth 20000 in
theorem ggX6_fits_X6_sheetAt : GoodIn wsX6_fits wsX6_sheetAt := goodIn_r _ [7, 8, 162, 163, 164, 165, 166, 167, 168] (by decide +kernel) (by decide +kernel)
set_option maxRecDepth 20000 in
theorem gX6_fits_X6_sheetAt : GoodIn wsX6_fits (wsV RX6 221 RX6 yX6_sheetAt wsX6_sheetAt) := goodIn_app (goodIn_of _ (by decide +kernel)) ggX6_fits_X6_sheetAt
set_option maxRecDepth 20000 in
theorem ggX6_fits_X6_finding : GoodIn wsX6_fits wsX6_finding := goodIn_r _ [12, 13, 14, 15, 16, 6, 17, 18, 19, 20, 162, 163, 164, 165, 166, 167, 168] (by decide +kernel) (by decide +kernel)
set_option maxRecDepth 20000 in
theorem gX6_fits_X6_finding : GoodIn wsX6_fits (wsV RX6 48 RX6 yX6_finding wsX6_finding) := goodIn_app (goodIn_of _ (by decide +kernel)) ggX6_fits_X6_finding
set_option maxRecDepth 20000 in
theorem ggX6_fits_X4_isMissing : GoodIn wsX6_fits wsX4_isMissing := goodIn_r _ [25, 26, 169, 170, 171] (by decide +kernel) (by decide +kernel)
set_option maxRecDepth 20000 in
theorem gX6_fits_X4_isMissing : GoodIn wsX6_fits (wsV RX6 225 RX4 yX4_isMissing wsX4_isMissing) := goodIn_app (goodIn_of _ (by decide +kernel)) ggX6_fits_X4_isMissing
set_option maxRecDepth 20000 in
theorem ggX6_fits_X2_seedAt : GoodIn wsX6_fits wsX2_seedAt := goodIn_r _ [31, 32, 33, 34, 35, 30, 36, 37, 172, 173, 174, 175, 176, 177, 178, 179] (by decide +kernel) (by decide +kernel)
set_option maxRecDepth 20000 in
theorem gX6_fits_X2_seedAt : GoodIn wsX6_fits (wsV RX6 105 RX2 yX2_seedAt wsX2_seedAt) := goodIn_app (goodIn_of _ (by decide +kernel)) ggX6_fits_X2_seedAt
set_option maxRecDepth 20000 in
theorem ggX6_fits_X6_isCell : GoodIn wsX6_fits wsX6_isCell := goodIn_r _ [40, 41, 42, 6, 43] (by decide +kernel) (by decide +kernel)
set_option maxRecDepth 20000 in
theorem gX6_fits_X6_isCell : GoodIn wsX6_fits (va_wsS RX6 40 yX6_isCell wsX6_isCell) := goodIn_app (goodIn_of _ (by decide +kernel)) ggX6_fits_X6_isCell
set_option maxRecDepth 20000 in
theorem ggX6_fits_X2_copyWith : GoodIn wsX6_fits wsX2_copyWith := goodIn_r _ [47, 48, 49, 50, 30, 51, 52, 53, 54, 55, 32, 56, 57, 58, 6, 59, 60, 61, 62, 63, 64, 65, 66, 67, 33, 34, 35, 36, 37, 68, 69, 70, 71, 72, 73, 74, 75, 76, 77, 28, 29, 31, 78, 79, 80, 81, 172, 173, 174, 175, 176, 177, 178, 179, 180, 181, 182, 183] (by decide +kernel) (by decide +kernel)
set_option maxRecDepth 20000 in
theorem gX6_fits_X2_copyWith : GoodIn wsX6_fits (wsV RX6 215 RX2 yX2_copyWith wsX2_copyWith) := goodIn_app (goodIn_of _ (by decide +kernel)) ggX6_fits_X2_copyWith
set_option maxRecDepth 20000 in
theorem ggX6_fits_X6_trialGoesAsTold : GoodIn wsX6_fits wsX6_trialGoesAsTold := goodIn_r _ [85, 2, 86, 87, 88, 30, 89, 52, 90, 91, 62, 92, 32, 56, 93, 94, 61, 63, 77, 28, 29, 31, 33, 34, 35, 36, 37, 95, 96, 97, 71, 98, 76, 99, 100, 101, 102, 73, 103, 104, 105, 106, 107, 108, 109, 110, 111, 112, 113, 114, 115, 116, 117, 118, 54, 119, 6, 120, 121, 122, 123, 124, 125, 126, 127, 128, 129, 130, 131, 132, 133, 134, 135, 136, 137, 138, 139, 140, 141, 142, 55, 143, 144, 145, 146, 147, 16, 17, 148, 149, 150, 151, 152, 153, 154, 155, 19, 20, 156, 157, 158, 24, 159, 160, 161, 169, 170, 171, 162, 163, 164, 165, 166, 167, 168, 172, 173, 174, 175, 176, 177, 178, 179, 180, 181, 182, 183] (by decide +kernel) (by decide +kernel)
set_option maxRecDepth 20000 in
theorem gX6_fits_X6_trialGoesAsTold : GoodIn wsX6_fits (wsV RX6 228 RX6 yX6_trialGoesAsTold wsX6_trialGoesAsTold) := goodIn_app (goodIn_of _ (by decide +kernel)) ggX6_fits_X6_trialGoesAsTold
theorem dX6_fits_0 : decode cX6_fits 0 = .ok (.aload_n 0, 1) := by decide +kernel
theorem dX6_fits_1 : decode cX6_fits 1 = .ok (.iload_n 1, 1) := by decide +kernel
theorem dX6_fits_2 : decode cX6_fits 2 = .ok (.invokevirtual 221, 3) := by decide +kernel
theorem dX6_fits_5 : decode cX6_fits 5 = .ok (.astore 4, 2) := by decide +kernel
theorem dX6_fits_7 : decode cX6_fits 7 = .ok (.aload 4, 2) := by decide +kernel
theorem dX6_fits_9 : decode cX6_fits 9 = .ok (.ifnonnull 9, 3) := by decide +kernel
theorem dX6_fits_12 : decode cX6_fits 12 = .ok (.aload_n 0, 1) := by decide +kernel
theorem dX6_fits_13 : decode cX6_fits 13 = .ok (.iconst 0, 1) := by decide +kernel
theorem dX6_fits_14 : decode cX6_fits 14 = .ok (.invokevirtual 48, 3) := by decide +kernel
theorem dX6_fits_17 : decode cX6_fits 17 = .ok (.ireturn, 1) := by decide +kernel
theorem dX6_fits_18 : decode cX6_fits 18 = .ok (.aload 4, 2) := by decide +kernel
theorem dX6_fits_20 : decode cX6_fits 20 = .ok (.invokevirtual 225, 3) := by decide +kernel
theorem dX6_fits_23 : decode cX6_fits 23 = .ok (.ifCond .eq 9, 3) := by decide +kernel
theorem dX6_fits_26 : decode cX6_fits 26 = .ok (.aload_n 0, 1) := by decide +kernel
theorem dX6_fits_27 : decode cX6_fits 27 = .ok (.iconst 5, 1) := by decide +kernel
theorem dX6_fits_28 : decode cX6_fits 28 = .ok (.invokevirtual 48, 3) := by decide +kernel
theorem dX6_fits_31 : decode cX6_fits 31 = .ok (.ireturn, 1) := by decide +kernel
theorem dX6_fits_32 : decode cX6_fits 32 = .ok (.aload_n 0, 1) := by decide +kernel
theorem dX6_fits_33 : decode cX6_fits 33 = .ok (.getfield 10, 3) := by decide +kernel
theorem dX6_fits_36 : decode cX6_fits 36 = .ok (.iload_n 2, 1) := by decide +kernel
theorem dX6_fits_37 : decode cX6_fits 37 = .ok (.invokevirtual 105, 3) := by decide +kernel
theorem dX6_fits_40 : decode cX6_fits 40 = .ok (.ifnull 10, 3) := by decide +kernel
theorem dX6_fits_43 : decode cX6_fits 43 = .ok (.iload_n 3, 1) := by decide +kernel
theorem dX6_fits_44 : decode cX6_fits 44 = .ok (.invokestatic 40, 3) := by decide +kernel
theorem dX6_fits_47 : decode cX6_fits 47 = .ok (.ifCond .ne 9, 3) := by decide +kernel
theorem dX6_fits_50 : decode cX6_fits 50 = .ok (.aload_n 0, 1) := by decide +kernel
theorem dX6_fits_51 : decode cX6_fits 51 = .ok (.iconst 0, 1) := by decide +kernel
theorem dX6_fits_52 : decode cX6_fits 52 = .ok (.invokevirtual 48, 3) := by decide +kernel
theorem dX6_fits_55 : decode cX6_fits 55 = .ok (.ireturn, 1) := by decide +kernel
theorem dX6_fits_56 : decode cX6_fits 56 = .ok (.iconst 0, 1) := by decide +kernel
theorem dX6_fits_57 : decode cX6_fits 57 = .ok (.istore 5, 2) := by decide +kernel
theorem dX6_fits_59 : decode cX6_fits 59 = .ok (.iconst 0, 1) := by decide +kernel
theorem dX6_fits_60 : decode cX6_fits 60 = .ok (.istore 6, 2) := by decide +kernel
theorem dX6_fits_62 : decode cX6_fits 62 = .ok (.iload 6, 2) := by decide +kernel
theorem dX6_fits_64 : decode cX6_fits 64 = .ok (.bipush 7, 2) := by decide +kernel
theorem dX6_fits_66 : decode cX6_fits 66 = .ok (.if_icmp .ge 43, 3) := by decide +kernel
theorem dX6_fits_69 : decode cX6_fits 69 = .ok (.aload_n 0, 1) := by decide +kernel
theorem dX6_fits_70 : decode cX6_fits 70 = .ok (.getfield 16, 3) := by decide +kernel
theorem dX6_fits_73 : decode cX6_fits 73 = .ok (.aload_n 0, 1) := by decide +kernel
theorem dX6_fits_74 : decode cX6_fits 74 = .ok (.getfield 10, 3) := by decide +kernel
theorem dX6_fits_77 : decode cX6_fits 77 = .ok (.iload_n 2, 1) := by decide +kernel
theorem dX6_fits_78 : decode cX6_fits 78 = .ok (.iconst 0, 1) := by decide +kernel
theorem dX6_fits_79 : decode cX6_fits 79 = .ok (.iload 6, 2) := by decide +kernel
theorem dX6_fits_81 : decode cX6_fits 81 = .ok (.invokevirtual 215, 3) := by decide +kernel
theorem dX6_fits_84 : decode cX6_fits 84 = .ok (.aload_n 0, 1) := by decide +kernel
theorem dX6_fits_85 : decode cX6_fits 85 = .ok (.aload 4, 2) := by decide +kernel
theorem dX6_fits_87 : decode cX6_fits 87 = .ok (.iload_n 3, 1) := by decide +kernel
theorem dX6_fits_88 : decode cX6_fits 88 = .ok (.invokevirtual 228, 3) := by decide +kernel
theorem dX6_fits_91 : decode cX6_fits 91 = .ok (.ifCond .eq 12, 3) := by decide +kernel
theorem dX6_fits_94 : decode cX6_fits 94 = .ok (.iload 5, 2) := by decide +kernel
theorem dX6_fits_96 : decode cX6_fits 96 = .ok (.iconst 1, 1) := by decide +kernel
theorem dX6_fits_97 : decode cX6_fits 97 = .ok (.iload 6, 2) := by decide +kernel
theorem dX6_fits_99 : decode cX6_fits 99 = .ok (.ishl, 1) := by decide +kernel
theorem dX6_fits_100 : decode cX6_fits 100 = .ok (.ior, 1) := by decide +kernel
theorem dX6_fits_101 : decode cX6_fits 101 = .ok (.istore 5, 2) := by decide +kernel
theorem dX6_fits_103 : decode cX6_fits 103 = .ok (.iinc 6 1, 3) := by decide +kernel
theorem dX6_fits_106 : decode cX6_fits 106 = .ok (.goto (-44), 3) := by decide +kernel
theorem dX6_fits_109 : decode cX6_fits 109 = .ok (.iload 5, 2) := by decide +kernel
theorem dX6_fits_111 : decode cX6_fits 111 = .ok (.ireturn, 1) := by decide +kernel
set_option maxRecDepth 20000 in
theorem ggX6_headings_X6_sheetAt : GoodIn wsX6_headings wsX6_sheetAt := goodIn_r _ [7, 8, 162, 163, 164, 165, 166, 167, 168] (by decide +kernel) (by decide +kernel)
set_option maxRecDepth 20000 in
theorem gX6_headings_X6_sheetAt : GoodIn wsX6_headings (wsV RX6 221 RX6 yX6_sheetAt wsX6_sheetAt) := goodIn_app (goodIn_of _ (by decide +kernel)) ggX6_headings_X6_sheetAt
set_option maxRecDepth 20000 in
theorem ggX6_headings_X6_finding : GoodIn wsX6_headings wsX6_finding := goodIn_r _ [12, 13, 14, 15, 16, 6, 17, 18, 19, 20, 162, 163, 164, 165, 166, 167, 168] (by decide +kernel) (by decide +kernel)
set_option maxRecDepth 20000 in
theorem gX6_headings_X6_finding : GoodIn wsX6_headings (wsV RX6 48 RX6 yX6_finding wsX6_finding) := goodIn_app (goodIn_of _ (by decide +kernel)) ggX6_headings_X6_finding
set_option maxRecDepth 20000 in
theorem ggX6_headings_X4_isMissing : GoodIn wsX6_headings wsX4_isMissing := goodIn_r _ [25, 26, 169, 170, 171] (by decide +kernel) (by decide +kernel)
set_option maxRecDepth 20000 in
theorem gX6_headings_X4_isMissing : GoodIn wsX6_headings (wsV RX6 225 RX4 yX4_isMissing wsX4_isMissing) := goodIn_app (goodIn_of _ (by decide +kernel)) ggX6_headings_X4_isMissing
set_option maxRecDepth 20000 in
theorem ggX6_headings_X2_seedAt : GoodIn wsX6_headings wsX2_seedAt := goodIn_r _ [31, 32, 33, 34, 35, 30, 36, 37, 172, 173, 174, 175, 176, 177, 178, 179] (by decide +kernel) (by decide +kernel)
set_option maxRecDepth 20000 in
theorem gX6_headings_X2_seedAt : GoodIn wsX6_headings (wsV RX6 105 RX2 yX2_seedAt wsX2_seedAt) := goodIn_app (goodIn_of _ (by decide +kernel)) ggX6_headings_X2_seedAt
set_option maxRecDepth 20000 in
theorem ggX6_headings_X6_isCell : GoodIn wsX6_headings wsX6_isCell := goodIn_r _ [40, 41, 42, 6, 43] (by decide +kernel) (by decide +kernel)
set_option maxRecDepth 20000 in
theorem gX6_headings_X6_isCell : GoodIn wsX6_headings (va_wsS RX6 40 yX6_isCell wsX6_isCell) := goodIn_app (goodIn_of _ (by decide +kernel)) ggX6_headings_X6_isCell
set_option maxRecDepth 20000 in
theorem ggX6_headings_X2_copyWith : GoodIn wsX6_headings wsX2_copyWith := goodIn_r _ [47, 48, 49, 50, 30, 51, 52, 53, 54, 55, 32, 56, 57, 58, 6, 59, 60, 61, 62, 63, 64, 65, 66, 67, 33, 34, 35, 36, 37, 68, 69, 70, 71, 72, 73, 74, 75, 76, 77, 28, 29, 31, 78, 79, 80, 81, 172, 173, 174, 175, 176, 177, 178, 179, 180, 181, 182, 183] (by decide +kernel) (by decide +kernel)
set_option maxRecDepth 20000 in
theorem gX6_headings_X2_copyWith : GoodIn wsX6_headings (wsV RX6 215 RX2 yX2_copyWith wsX2_copyWith) := goodIn_app (goodIn_of _ (by decide +kernel)) ggX6_headings_X2_copyWith
set_option maxRecDepth 20000 in
theorem ggX6_headings_X6_trialGoesAsTold : GoodIn wsX6_headings wsX6_trialGoesAsTold := goodIn_r _ [85, 2, 86, 87, 88, 30, 89, 52, 90, 91, 62, 92, 32, 56, 93, 94, 61, 63, 77, 28, 29, 31, 33, 34, 35, 36, 37, 95, 96, 97, 71, 98, 76, 99, 100, 101, 102, 73, 103, 104, 105, 106, 107, 108, 109, 110, 111, 112, 113, 114, 115, 116, 117, 118, 54, 119, 6, 120, 121, 122, 123, 124, 125, 126, 127, 128, 129, 130, 131, 132, 133, 134, 135, 136, 137, 138, 139, 140, 141, 142, 55, 143, 144, 145, 146, 147, 16, 17, 148, 149, 150, 151, 152, 153, 154, 155, 19, 20, 156, 157, 158, 24, 159, 160, 161, 169, 170, 171, 162, 163, 164, 165, 166, 167, 168, 172, 173, 174, 175, 176, 177, 178, 179, 180, 181, 182, 183] (by decide +kernel) (by decide +kernel)
set_option maxRecDepth 20000 in
theorem gX6_headings_X6_trialGoesAsTold : GoodIn wsX6_headings (wsV RX6 228 RX6 yX6_trialGoesAsTold wsX6_trialGoesAsTold) := goodIn_app (goodIn_of _ (by decide +kernel)) ggX6_headings_X6_trialGoesAsTold
theorem dX6_headings_0 : decode cX6_headings 0 = .ok (.aload_n 0, 1) := by decide +kernel
theorem dX6_headings_1 : decode cX6_headings 1 = .ok (.iload_n 1, 1) := by decide +kernel
theorem dX6_headings_2 : decode cX6_headings 2 = .ok (.invokevirtual 221, 3) := by decide +kernel
theorem dX6_headings_5 : decode cX6_headings 5 = .ok (.astore 4, 2) := by decide +kernel
theorem dX6_headings_7 : decode cX6_headings 7 = .ok (.aload 4, 2) := by decide +kernel
theorem dX6_headings_9 : decode cX6_headings 9 = .ok (.ifnonnull 9, 3) := by decide +kernel
theorem dX6_headings_12 : decode cX6_headings 12 = .ok (.aload_n 0, 1) := by decide +kernel
theorem dX6_headings_13 : decode cX6_headings 13 = .ok (.iconst 0, 1) := by decide +kernel
theorem dX6_headings_14 : decode cX6_headings 14 = .ok (.invokevirtual 48, 3) := by decide +kernel
theorem dX6_headings_17 : decode cX6_headings 17 = .ok (.ireturn, 1) := by decide +kernel
theorem dX6_headings_18 : decode cX6_headings 18 = .ok (.aload 4, 2) := by decide +kernel
theorem dX6_headings_20 : decode cX6_headings 20 = .ok (.invokevirtual 225, 3) := by decide +kernel
theorem dX6_headings_23 : decode cX6_headings 23 = .ok (.ifCond .eq 9, 3) := by decide +kernel
theorem dX6_headings_26 : decode cX6_headings 26 = .ok (.aload_n 0, 1) := by decide +kernel
theorem dX6_headings_27 : decode cX6_headings 27 = .ok (.iconst 5, 1) := by decide +kernel
theorem dX6_headings_28 : decode cX6_headings 28 = .ok (.invokevirtual 48, 3) := by decide +kernel
theorem dX6_headings_31 : decode cX6_headings 31 = .ok (.ireturn, 1) := by decide +kernel
theorem dX6_headings_32 : decode cX6_headings 32 = .ok (.aload_n 0, 1) := by decide +kernel
theorem dX6_headings_33 : decode cX6_headings 33 = .ok (.getfield 10, 3) := by decide +kernel
theorem dX6_headings_36 : decode cX6_headings 36 = .ok (.iload_n 2, 1) := by decide +kernel
theorem dX6_headings_37 : decode cX6_headings 37 = .ok (.invokevirtual 105, 3) := by decide +kernel
theorem dX6_headings_40 : decode cX6_headings 40 = .ok (.ifnull 10, 3) := by decide +kernel
theorem dX6_headings_43 : decode cX6_headings 43 = .ok (.iload_n 3, 1) := by decide +kernel
theorem dX6_headings_44 : decode cX6_headings 44 = .ok (.invokestatic 40, 3) := by decide +kernel
theorem dX6_headings_47 : decode cX6_headings 47 = .ok (.ifCond .ne 9, 3) := by decide +kernel
theorem dX6_headings_50 : decode cX6_headings 50 = .ok (.aload_n 0, 1) := by decide +kernel
theorem dX6_headings_51 : decode cX6_headings 51 = .ok (.iconst 0, 1) := by decide +kernel
theorem dX6_headings_52 : decode cX6_headings 52 = .ok (.invokevirtual 48, 3) := by decide +kernel
theorem dX6_headings_55 : decode cX6_headings 55 = .ok (.ireturn, 1) := by decide +kernel
theorem dX6_headings_56 : decode cX6_headings 56 = .ok (.iconst 0, 1) := by decide +kernel
theorem dX6_headings_57 : decode cX6_headings 57 = .ok (.istore 5, 2) := by decide +kernel
theorem dX6_headings_59 : decode cX6_headings 59 = .ok (.iconst 0, 1) := by decide +kernel
theorem dX6_headings_60 : decode cX6_headings 60 = .ok (.istore 6, 2) := by decide +kernel
theorem dX6_headings_62 : decode cX6_headings 62 = .ok (.iload 6, 2) := by decide +kernel
theorem dX6_headings_64 : decode cX6_headings 64 = .ok (.iconst 4, 1) := by decide +kernel
theorem dX6_headings_65 : decode cX6_headings 65 = .ok (.if_icmp .ge 37, 3) := by decide +kernel
theorem dX6_headings_68 : decode cX6_headings 68 = .ok (.aload_n 0, 1) := by decide +kernel
theorem dX6_headings_69 : decode cX6_headings 69 = .ok (.getfield 16, 3) := by decide +kernel
theorem dX6_headings_72 : decode cX6_headings 72 = .ok (.aload_n 0, 1) := by decide +kernel
theorem dX6_headings_73 : decode cX6_headings 73 = .ok (.getfield 10, 3) := by decide +kernel
theorem dX6_headings_76 : decode cX6_headings 76 = .ok (.iload_n 2, 1) := by decide +kernel
theorem dX6_headings_77 : decode cX6_headings 77 = .ok (.iconst 2, 1) := by decide +kernel
theorem dX6_headings_78 : decode cX6_headings 78 = .ok (.iload 6, 2) := by decide +kernel
theorem dX6_headings_80 : decode cX6_headings 80 = .ok (.invokevirtual 215, 3) := by decide +kernel
theorem dX6_headings_83 : decode cX6_headings 83 = .ok (.aload_n 0, 1) := by decide +kernel
theorem dX6_headings_84 : decode cX6_headings 84 = .ok (.aload 4, 2) := by decide +kernel
theorem dX6_headings_86 : decode cX6_headings 86 = .ok (.iload_n 3, 1) := by decide +kernel
theorem dX6_headings_87 : decode cX6_headings 87 = .ok (.invokevirtual 228, 3) := by decide +kernel
theorem dX6_headings_90 : decode cX6_headings 90 = .ok (.ifCond .eq 6, 3) := by decide +kernel
theorem dX6_headings_93 : decode cX6_headings 93 = .ok (.iinc 5 1, 3) := by decide +kernel
theorem dX6_headings_96 : decode cX6_headings 96 = .ok (.iinc 6 1, 3) := by decide +kernel
theorem dX6_headings_99 : decode cX6_headings 99 = .ok (.goto (-37), 3) := by decide +kernel
theorem dX6_headings_102 : decode cX6_headings 102 = .ok (.iload 5, 2) := by decide +kernel
theorem dX6_headings_104 : decode cX6_headings 104 = .ok (.ireturn, 1) := by decide +kernel
set_option maxRecDepth 20000 in
theorem ggX6_dogs_X6_within : GoodIn wsX6_dogs wsX6_within := goodIn_r _ [6] (by decide +kernel) (by decide +kernel)
set_option maxRecDepth 20000 in
theorem gX6_dogs_X6_within : GoodIn wsX6_dogs (va_wsS RX6 44 yX6_within wsX6_within) := goodIn_app (goodIn_of _ (by decide +kernel)) ggX6_dogs_X6_within
set_option maxRecDepth 20000 in
theorem ggX6_dogs_X6_finding : GoodIn wsX6_dogs wsX6_finding := goodIn_r _ [10, 11, 12, 13, 14, 5, 15, 16, 17, 18, 132, 133, 134, 135, 136, 137, 138] (by decide +kernel) (by decide +kernel)
set_option maxRecDepth 20000 in
theorem gX6_dogs_X6_finding : GoodIn wsX6_dogs (wsV RX6 48 RX6 yX6_finding wsX6_finding) := goodIn_app (goodIn_of _ (by decide +kernel)) ggX6_dogs_X6_finding
set_option maxRecDepth 20000 in
theorem ggX6_dogs_X2_draw : GoodIn wsX6_dogs wsX2_draw := goodIn_r _ [23, 24, 25, 139, 140, 141, 142, 143, 144, 145, 146] (by decide +kernel) (by decide +kernel)
set_option maxRecDepth 20000 in
theorem gX6_dogs_X2_draw : GoodIn wsX6_dogs (wsV RX6 232 RX2 yX2_draw wsX2_draw) := goodIn_app (goodIn_of _ (by decide +kernel)) ggX6_dogs_X2_draw
set_option maxRecDepth 20000 in
theorem ggX6_dogs_X2_becomePath : GoodIn wsX6_dogs wsX2_becomePath := goodIn_r _ [29, 30, 31, 32, 33, 22, 34, 35, 36, 37, 38, 39, 40, 41, 42, 43, 5, 44, 17, 18, 139, 140, 141, 142, 143, 144, 145, 146] (by decide +kernel) (by decide +kernel)
set_option maxRecDepth 20000 in
theorem gX6_dogs_X2_becomePath : GoodIn wsX6_dogs (wsV RX6 88 RX2 yX2_becomePath wsX2_becomePath) := goodIn_app (goodIn_of _ (by decide +kernel)) ggX6_dogs_X2_becomePath
set_option maxRecDepth 20000 in
theorem ggX6_dogs_X2_pass : GoodIn wsX6_dogs wsX2_pass := goodIn_r _ [48, 30, 49, 50, 51, 52, 53, 54, 55, 56, 57, 58, 59, 60, 61, 22, 62, 63, 64, 65, 66, 67, 68, 69, 70, 71, 72, 73, 74, 75, 76, 77, 78, 79, 80, 81, 82, 83, 84, 85, 86, 87, 88, 89, 90, 91, 92, 93, 94, 40, 43, 5, 44, 95, 96, 97, 98, 99, 100, 101, 102, 103, 104, 105, 106, 107, 31, 32, 33, 34, 35, 36, 37, 38, 39, 41, 42, 108, 109, 110, 111, 14, 15, 112, 113, 114, 115, 116, 27, 28, 29, 17, 18, 139, 140, 141, 142, 143, 144, 145, 146, 147, 148, 149, 150] (by decide +kernel) (by decide +kernel)
set_option maxRecDepth 20000 in
theorem gX6_dogs_X2_pass : GoodIn wsX6_dogs (wsV RX6 153 RX2 yX2_pass wsX2_pass) := goodIn_app (goodIn_of _ (by decide +kernel)) ggX6_dogs_X2_pass
set_option maxRecDepth 20000 in
theorem ggX6_dogs_X2_pathCells : GoodIn wsX6_dogs wsX2_pathCells := goodIn_r _ [120, 121, 122, 123, 22, 124, 30, 43, 5, 44, 125, 126, 127, 128, 129, 130, 131, 139, 140, 141, 142, 143, 144, 145, 146] (by decide +kernel) (by decide +kernel)
set_option maxRecDepth 20000 in
theorem gX6_dogs_X2_pathCells : GoodIn wsX6_dogs (wsV RX6 157 RX2 yX2_pathCells wsX2_pathCells) := goodIn_app (goodIn_of _ (by decide +kernel)) ggX6_dogs_X2_pathCells
theorem dX6_dogs_0 : decode cX6_dogs 0 = .ok (.iload_n 1, 1) := by decide +kernel
theorem dX6_dogs_1 : decode cX6_dogs 1 = .ok (.iconst 1, 1) := by decide +kernel
theorem dX6_dogs_2 : decode cX6_dogs 2 = .ok (.bipush 20, 2) := by decide +kernel
theorem dX6_dogs_4 : decode cX6_dogs 4 = .ok (.invokestatic 44, 3) := by decide +kernel
theorem dX6_dogs_7 : decode cX6_dogs 7 = .ok (.ifCond .ne 9, 3) := by decide +kernel
theorem dX6_dogs_10 : decode cX6_dogs 10 = .ok (.aload_n 0, 1) := by decide +kernel
theorem dX6_dogs_11 : decode cX6_dogs 11 = .ok (.iconst 0, 1) := by decide +kernel
theorem dX6_dogs_12 : decode cX6_dogs 12 = .ok (.invokevirtual 48, 3) := by decide +kernel
theorem dX6_dogs_15 : decode cX6_dogs 15 = .ok (.ireturn, 1) := by decide +kernel
theorem dX6_dogs_16 : decode cX6_dogs 16 = .ok (.aload_n 0, 1) := by decide +kernel
theorem dX6_dogs_17 : decode cX6_dogs 17 = .ok (.getfield 10, 3) := by decide +kernel
theorem dX6_dogs_20 : decode cX6_dogs 20 = .ok (.getfield 149, 3) := by decide +kernel
theorem dX6_dogs_23 : decode cX6_dogs 23 = .ok (.iload_n 1, 1) := by decide +kernel
theorem dX6_dogs_24 : decode cX6_dogs 24 = .ok (.iadd, 1) := by decide +kernel
theorem dX6_dogs_25 : decode cX6_dogs 25 = .ok (.ldc 152, 2) := by decide +kernel
theorem dX6_dogs_27 : decode cX6_dogs 27 = .ok (.if_icmp .le 9, 3) := by decide +kernel
theorem dX6_dogs_30 : decode cX6_dogs 30 = .ok (.aload_n 0, 1) := by decide +kernel
theorem dX6_dogs_31 : decode cX6_dogs 31 = .ok (.iconst 4, 1) := by decide +kernel
theorem dX6_dogs_32 : decode cX6_dogs 32 = .ok (.invokevirtual 48, 3) := by decide +kernel
theorem dX6_dogs_35 : decode cX6_dogs 35 = .ok (.ireturn, 1) := by decide +kernel
theorem dX6_dogs_36 : decode cX6_dogs 36 = .ok (.iconst 0, 1) := by decide +kernel
theorem dX6_dogs_37 : decode cX6_dogs 37 = .ok (.istore_n 2, 1) := by decide +kernel
theorem dX6_dogs_38 : decode cX6_dogs 38 = .ok (.iload_n 2, 1) := by decide +kernel
theorem dX6_dogs_39 : decode cX6_dogs 39 = .ok (.iload_n 1, 1) := by decide +kernel
theorem dX6_dogs_40 : decode cX6_dogs 40 = .ok (.if_icmp .ge 35, 3) := by decide +kernel
theorem dX6_dogs_43 : decode cX6_dogs 43 = .ok (.aload_n 0, 1) := by decide +kernel
theorem dX6_dogs_44 : decode cX6_dogs 44 = .ok (.getfield 10, 3) := by decide +kernel
theorem dX6_dogs_47 : decode cX6_dogs 47 = .ok (.aload_n 0, 1) := by decide +kernel
theorem dX6_dogs_48 : decode cX6_dogs 48 = .ok (.getfield 10, 3) := by decide +kernel
theorem dX6_dogs_51 : decode cX6_dogs 51 = .ok (.invokevirtual 232, 3) := by decide +kernel
theorem dX6_dogs_54 : decode cX6_dogs 54 = .ok (.bipush 36, 2) := by decide +kernel
theorem dX6_dogs_56 : decode cX6_dogs 56 = .ok (.irem, 1) := by decide +kernel
theorem dX6_dogs_57 : decode cX6_dogs 57 = .ok (.iconst 0, 1) := by decide +kernel
theorem dX6_dogs_58 : decode cX6_dogs 58 = .ok (.invokevirtual 88, 3) := by decide +kernel
theorem dX6_dogs_61 : decode cX6_dogs 61 = .ok (.aload_n 0, 1) := by decide +kernel
theorem dX6_dogs_62 : decode cX6_dogs 62 = .ok (.getfield 10, 3) := by decide +kernel
theorem dX6_dogs_65 : decode cX6_dogs 65 = .ok (.iconst 1, 1) := by decide +kernel
theorem dX6_dogs_66 : decode cX6_dogs 66 = .ok (.invokevirtual 153, 3) := by decide +kernel
theorem dX6_dogs_69 : decode cX6_dogs 69 = .ok (.iinc 2 1, 3) := by decide +kernel
theorem dX6_dogs_72 : decode cX6_dogs 72 = .ok (.goto (-34), 3) := by decide +kernel
theorem dX6_dogs_75 : decode cX6_dogs 75 = .ok (.aload_n 0, 1) := by decide +kernel
theorem dX6_dogs_76 : decode cX6_dogs 76 = .ok (.getfield 10, 3) := by decide +kernel
theorem dX6_dogs_79 : decode cX6_dogs 79 = .ok (.invokevirtual 157, 3) := by decide +kernel
theorem dX6_dogs_82 : decode cX6_dogs 82 = .ok (.ireturn, 1) := by decide +kernel
set_option maxRecDepth 20000 in
theorem ggX6_odds_X6_within : GoodIn wsX6_odds wsX6_within := goodIn_r _ [5] (by decide +kernel) (by decide +kernel)
set_option maxRecDepth 20000 in
theorem gX6_odds_X6_within : GoodIn wsX6_odds (va_wsS RX6 44 yX6_within wsX6_within) := goodIn_app (goodIn_of _ (by decide +kernel)) ggX6_odds_X6_within
set_option maxRecDepth 20000 in
theorem ggX6_odds_X6_finding : GoodIn wsX6_odds wsX6_finding := goodIn_r _ [9, 10, 11, 12, 13, 4, 14, 15, 16, 17, 43, 44, 45, 46, 47, 48, 49] (by decide +kernel) (by decide +kernel)
set_option maxRecDepth 20000 in
theorem gX6_odds_X6_finding : GoodIn wsX6_odds (wsV RX6 48 RX6 yX6_finding wsX6_finding) := goodIn_app (goodIn_of _ (by decide +kernel)) ggX6_odds_X6_finding
set_option maxRecDepth 20000 in
theorem ggX6_odds_X2_pathCells : GoodIn wsX6_odds wsX2_pathCells := goodIn_r _ [22, 23, 24, 25, 21, 26, 27, 28, 4, 29, 30, 31, 32, 33, 34, 35, 36, 50, 51, 52, 53, 54, 55, 56, 57] (by decide +kernel) (by decide +kernel)
set_option maxRecDepth 20000 in
theorem gX6_odds_X2_pathCells : GoodIn wsX6_odds (wsV RX6 157 RX2 yX2_pathCells wsX2_pathCells) := goodIn_app (goodIn_of _ (by decide +kernel)) ggX6_odds_X2_pathCells
set_option maxRecDepth 20000 in
theorem ggX6_odds_X6_commonDivisor : GoodIn wsX6_odds wsX6_commonDivisor := goodIn_r _ [39] (by decide +kernel) (by decide +kernel)
set_option maxRecDepth 20000 in
theorem gX6_odds_X6_commonDivisor : GoodIn wsX6_odds (va_wsS RX6 235 yX6_commonDivisor wsX6_commonDivisor) := goodIn_app (goodIn_of _ (by decide +kernel)) ggX6_odds_X6_commonDivisor
set_option maxRecDepth 20000 in
theorem ggX6_odds_X6_power : GoodIn wsX6_odds wsX6_power := goodIn_r _ [42] (by decide +kernel) (by decide +kernel)
set_option maxRecDepth 20000 in
theorem gX6_odds_X6_power : GoodIn wsX6_odds (va_wsS RX6 238 yX6_power wsX6_power) := goodIn_app (goodIn_of _ (by decide +kernel)) ggX6_odds_X6_power
theorem dX6_odds_0 : decode cX6_odds 0 = .ok (.iload_n 1, 1) := by decide +kernel
theorem dX6_odds_1 : decode cX6_odds 1 = .ok (.iconst 0, 1) := by decide +kernel
theorem dX6_odds_2 : decode cX6_odds 2 = .ok (.bipush 11, 2) := by decide +kernel
theorem dX6_odds_4 : decode cX6_odds 4 = .ok (.invokestatic 44, 3) := by decide +kernel
theorem dX6_odds_7 : decode cX6_odds 7 = .ok (.ifCond .eq 12, 3) := by decide +kernel
theorem dX6_odds_10 : decode cX6_odds 10 = .ok (.iload_n 2, 1) := by decide +kernel
theorem dX6_odds_11 : decode cX6_odds 11 = .ok (.iconst 0, 1) := by decide +kernel
theorem dX6_odds_12 : decode cX6_odds 12 = .ok (.iconst 1, 1) := by decide +kernel
theorem dX6_odds_13 : decode cX6_odds 13 = .ok (.invokestatic 44, 3) := by decide +kernel
theorem dX6_odds_16 : decode cX6_odds 16 = .ok (.ifCond .ne 10, 3) := by decide +kernel
theorem dX6_odds_19 : decode cX6_odds 19 = .ok (.aload_n 0, 1) := by decide +kernel
theorem dX6_odds_20 : decode cX6_odds 20 = .ok (.iconst 0, 1) := by decide +kernel
theorem dX6_odds_21 : decode cX6_odds 21 = .ok (.invokevirtual 48, 3) := by decide +kernel
theorem dX6_odds_24 : decode cX6_odds 24 = .ok (.i2l, 1) := by decide +kernel
theorem dX6_odds_25 : decode cX6_odds 25 = .ok (.lreturn, 1) := by decide +kernel
theorem dX6_odds_26 : decode cX6_odds 26 = .ok (.bipush 36, 2) := by decide +kernel
theorem dX6_odds_28 : decode cX6_odds 28 = .ok (.aload_n 0, 1) := by decide +kernel
theorem dX6_odds_29 : decode cX6_odds 29 = .ok (.getfield 10, 3) := by decide +kernel
theorem dX6_odds_32 : decode cX6_odds 32 = .ok (.invokevirtual 157, 3) := by decide +kernel
theorem dX6_odds_35 : decode cX6_odds 35 = .ok (.isub, 1) := by decide +kernel
theorem dX6_odds_36 : decode cX6_odds 36 = .ok (.istore_n 3, 1) := by decide +kernel
theorem dX6_odds_37 : decode cX6_odds 37 = .ok (.iload_n 3, 1) := by decide +kernel
theorem dX6_odds_38 : decode cX6_odds 38 = .ok (.bipush 36, 2) := by decide +kernel
theorem dX6_odds_40 : decode cX6_odds 40 = .ok (.invokestatic 235, 3) := by decide +kernel
theorem dX6_odds_43 : decode cX6_odds 43 = .ok (.istore 4, 2) := by decide +kernel
theorem dX6_odds_45 : decode cX6_odds 45 = .ok (.iload_n 2, 1) := by decide +kernel
theorem dX6_odds_46 : decode cX6_odds 46 = .ok (.ifCond .ne 7, 3) := by decide +kernel
theorem dX6_odds_49 : decode cX6_odds 49 = .ok (.iload_n 3, 1) := by decide +kernel
theorem dX6_odds_50 : decode cX6_odds 50 = .ok (.goto 5, 3) := by decide +kernel
theorem dX6_odds_53 : decode cX6_odds 53 = .ok (.bipush 36, 2) := by decide +kernel
theorem dX6_odds_55 : decode cX6_odds 55 = .ok (.istore 5, 2) := by decide +kernel
theorem dX6_odds_57 : decode cX6_odds 57 = .ok (.iload 4, 2) := by decide +kernel
theorem dX6_odds_59 : decode cX6_odds 59 = .ok (.ifCond .le 15, 3) := by decide +kernel
theorem dX6_odds_62 : decode cX6_odds 62 = .ok (.iload 5, 2) := by decide +kernel
theorem dX6_odds_64 : decode cX6_odds 64 = .ok (.iload 4, 2) := by decide +kernel
theorem dX6_odds_66 : decode cX6_odds 66 = .ok (.idiv, 1) := by decide +kernel
theorem dX6_odds_67 : decode cX6_odds 67 = .ok (.iload_n 1, 1) := by decide +kernel
theorem dX6_odds_68 : decode cX6_odds 68 = .ok (.invokestatic 238, 3) := by decide +kernel
theorem dX6_odds_71 : decode cX6_odds 71 = .ok (.goto 9, 3) := by decide +kernel
theorem dX6_odds_74 : decode cX6_odds 74 = .ok (.iload 5, 2) := by decide +kernel
theorem dX6_odds_76 : decode cX6_odds 76 = .ok (.iload_n 1, 1) := by decide +kernel
theorem dX6_odds_77 : decode cX6_odds 77 = .ok (.invokestatic 238, 3) := by decide +kernel
theorem dX6_odds_80 : decode cX6_odds 80 = .ok (.lreturn, 1) := by decide +kernel
theorem dX6_seed_0 : decode cX6_seed 0 = .ok (.aload_n 0, 1) := by decide +kernel
theorem dX6_seed_1 : decode cX6_seed 1 = .ok (.getfield 10, 3) := by decide +kernel
theorem dX6_seed_4 : decode cX6_seed 4 = .ok (.getfield 242, 3) := by decide +kernel
theorem dX6_seed_7 : decode cX6_seed 7 = .ok (.istore_n 2, 1) := by decide +kernel
theorem dX6_seed_8 : decode cX6_seed 8 = .ok (.aload_n 0, 1) := by decide +kernel
theorem dX6_seed_9 : decode cX6_seed 9 = .ok (.getfield 10, 3) := by decide +kernel
theorem dX6_seed_12 : decode cX6_seed 12 = .ok (.iload_n 1, 1) := by decide +kernel
theorem dX6_seed_13 : decode cX6_seed 13 = .ok (.putfield 242, 3) := by decide +kernel
theorem dX6_seed_16 : decode cX6_seed 16 = .ok (.iload_n 2, 1) := by decide +kernel
theorem dX6_seed_17 : decode cX6_seed 17 = .ok (.ireturn, 1) := by decide +kernel
set_option maxRecDepth 20000 in
theorem ggX6_feed_X6_within : GoodIn wsX6_feed wsX6_within := goodIn_r _ [5] (by decide +kernel) (by decide +kernel)
set_option maxRecDepth 20000 in
theorem gX6_feed_X6_within : GoodIn wsX6_feed (va_wsS RX6 44 yX6_within wsX6_within) := goodIn_app (goodIn_of _ (by decide +kernel)) ggX6_feed_X6_within
set_option maxRecDepth 20000 in
theorem ggX6_feed_X6_finding : GoodIn wsX6_feed wsX6_finding := goodIn_r _ [9, 10, 11, 12, 13, 4, 14, 15, 16, 17, 25, 26, 27, 28, 29, 30, 31] (by decide +kernel) (by decide +kernel)
set_option maxRecDepth 20000 in
theorem gX6_feed_X6_finding : GoodIn wsX6_feed (wsV RX6 48 RX6 yX6_finding wsX6_finding) := goodIn_app (goodIn_of _ (by decide +kernel)) ggX6_feed_X6_finding
set_option maxRecDepth 20000 in
theorem ggX6_feed_X5_append : GoodIn wsX6_feed wsX5_append := goodIn_r _ [22, 23, 24, 32, 33, 34, 35, 36, 37] (by decide +kernel) (by decide +kernel)
set_option maxRecDepth 20000 in
theorem gX6_feed_X5_append : GoodIn wsX6_feed (wsV RX6 248 RX5 yX5_append wsX5_append) := goodIn_app (goodIn_of _ (by decide +kernel)) ggX6_feed_X5_append
theorem dX6_feed_0 : decode cX6_feed 0 = .ok (.iload_n 2, 1) := by decide +kernel
theorem dX6_feed_1 : decode cX6_feed 1 = .ok (.iconst 1, 1) := by decide +kernel
theorem dX6_feed_2 : decode cX6_feed 2 = .ok (.iconst 4, 1) := by decide +kernel
theorem dX6_feed_3 : decode cX6_feed 3 = .ok (.invokestatic 44, 3) := by decide +kernel
theorem dX6_feed_6 : decode cX6_feed 6 = .ok (.ifCond .ne 9, 3) := by decide +kernel
theorem dX6_feed_9 : decode cX6_feed 9 = .ok (.aload_n 0, 1) := by decide +kernel
theorem dX6_feed_10 : decode cX6_feed 10 = .ok (.iconst 0, 1) := by decide +kernel
theorem dX6_feed_11 : decode cX6_feed 11 = .ok (.invokevirtual 48, 3) := by decide +kernel
theorem dX6_feed_14 : decode cX6_feed 14 = .ok (.ireturn, 1) := by decide +kernel
theorem dX6_feed_15 : decode cX6_feed 15 = .ok (.aload_n 0, 1) := by decide +kernel
theorem dX6_feed_16 : decode cX6_feed 16 = .ok (.getfield 25, 3) := by decide +kernel
theorem dX6_feed_19 : decode cX6_feed 19 = .ok (.getfield 245, 3) := by decide +kernel
theorem dX6_feed_22 : decode cX6_feed 22 = .ok (.iload_n 2, 1) := by decide +kernel
theorem dX6_feed_23 : decode cX6_feed 23 = .ok (.iadd, 1) := by decide +kernel
theorem dX6_feed_24 : decode cX6_feed 24 = .ok (.bipush 120, 2) := by decide +kernel
theorem dX6_feed_26 : decode cX6_feed 26 = .ok (.if_icmp .le 9, 3) := by decide +kernel
theorem dX6_feed_29 : decode cX6_feed 29 = .ok (.aload_n 0, 1) := by decide +kernel
theorem dX6_feed_30 : decode cX6_feed 30 = .ok (.iconst 1, 1) := by decide +kernel
theorem dX6_feed_31 : decode cX6_feed 31 = .ok (.invokevirtual 48, 3) := by decide +kernel
theorem dX6_feed_34 : decode cX6_feed 34 = .ok (.ireturn, 1) := by decide +kernel
theorem dX6_feed_35 : decode cX6_feed 35 = .ok (.iload_n 2, 1) := by decide +kernel
theorem dX6_feed_36 : decode cX6_feed 36 = .ok (.iconst 1, 1) := by decide +kernel
theorem dX6_feed_37 : decode cX6_feed 37 = .ok (.isub, 1) := by decide +kernel
theorem dX6_feed_38 : decode cX6_feed 38 = .ok (.istore_n 3, 1) := by decide +kernel
theorem dX6_feed_39 : decode cX6_feed 39 = .ok (.iload_n 3, 1) := by decide +kernel
theorem dX6_feed_40 : decode cX6_feed 40 = .ok (.ifCond .lt 26, 3) := by decide +kernel
theorem dX6_feed_43 : decode cX6_feed 43 = .ok (.aload_n 0, 1) := by decide +kernel
theorem dX6_feed_44 : decode cX6_feed 44 = .ok (.getfield 25, 3) := by decide +kernel
theorem dX6_feed_47 : decode cX6_feed 47 = .ok (.iload_n 1, 1) := by decide +kernel
theorem dX6_feed_48 : decode cX6_feed 48 = .ok (.bipush 8, 2) := by decide +kernel
theorem dX6_feed_50 : decode cX6_feed 50 = .ok (.iload_n 3, 1) := by decide +kernel
theorem dX6_feed_51 : decode cX6_feed 51 = .ok (.imul, 1) := by decide +kernel
theorem dX6_feed_52 : decode cX6_feed 52 = .ok (.iushr, 1) := by decide +kernel
theorem dX6_feed_53 : decode cX6_feed 53 = .ok (.sipush 255, 3) := by decide +kernel
theorem dX6_feed_56 : decode cX6_feed 56 = .ok (.iand, 1) := by decide +kernel
theorem dX6_feed_57 : decode cX6_feed 57 = .ok (.invokevirtual 248, 3) := by decide +kernel
theorem dX6_feed_60 : decode cX6_feed 60 = .ok (.iinc 3 (-1), 3) := by decide +kernel
theorem dX6_feed_63 : decode cX6_feed 63 = .ok (.goto (-24), 3) := by decide +kernel
theorem dX6_feed_66 : decode cX6_feed 66 = .ok (.aload_n 0, 1) := by decide +kernel
theorem dX6_feed_67 : decode cX6_feed 67 = .ok (.getfield 25, 3) := by decide +kernel
theorem dX6_feed_70 : decode cX6_feed 70 = .ok (.getfield 245, 3) := by decide +kernel
theorem dX6_feed_73 : decode cX6_feed 73 = .ok (.ireturn, 1) := by decide +kernel
set_option maxRecDepth 20000 in
theorem ggX6_wipe_X5_clear : GoodIn wsX6_wipe wsX5_clear := goodIn_r _ [6, 7, 15, 16, 17, 18, 19, 20] (by decide +kernel) (by decide +kernel)
set_option maxRecDepth 20000 in
theorem gX6_wipe_X5_clear : GoodIn wsX6_wipe (wsV RX6 251 RX5 yX5_clear wsX5_clear) := goodIn_app (goodIn_of _ (by decide +kernel)) ggX6_wipe_X5_clear
theorem dX6_wipe_0 : decode cX6_wipe 0 = .ok (.aload_n 0, 1) := by decide +kernel
theorem dX6_wipe_1 : decode cX6_wipe 1 = .ok (.getfield 25, 3) := by decide +kernel
theorem dX6_wipe_4 : decode cX6_wipe 4 = .ok (.invokevirtual 251, 3) := by decide +kernel
theorem dX6_wipe_7 : decode cX6_wipe 7 = .ok (.ireturn, 1) := by decide +kernel
set_option maxRecDepth 20000 in
theorem ggX6_text_X2_copyFrom : GoodIn wsX6_text wsX2_copyFrom := goodIn_r _ [8, 9, 10, 11, 12, 13, 14, 15, 16, 17, 18, 19, 20, 21, 22, 23, 24, 25, 26, 27, 28, 29, 7, 30, 31, 32, 33, 34, 35, 36, 37, 38, 39, 40, 203, 204, 205, 206, 207, 208, 209, 210, 211, 212, 213, 214] (by decide +kernel) (by decide +kernel)
set_option maxRecDepth 20000 in
theorem gX6_text_X2_copyFrom : GoodIn wsX6_text (wsV RX6 201 RX2 yX2_copyFrom wsX2_copyFrom) := goodIn_app (goodIn_of _ (by decide +kernel)) ggX6_text_X2_copyFrom
set_option maxRecDepth 20000 in
theorem ggX6_text_X1_read : GoodIn wsX6_text wsX1_read := goodIn_r _ [44, 45, 46, 47, 48, 49, 50, 51, 52, 53, 54, 55, 56, 57, 58, 59, 60, 17, 61, 62, 63, 64, 65, 66, 67, 68, 69, 70, 71, 72, 20, 21, 22, 73, 74, 43, 75, 76, 77, 78, 79, 80, 81, 82, 83, 84, 85, 86, 87, 88, 89, 90, 91, 92, 93, 94, 95, 96, 97, 98, 99, 100, 101, 102, 103, 104, 105, 106, 107, 108, 109, 110, 111, 112, 113, 114, 115, 116, 117, 118, 119, 120, 121, 122, 123, 124, 125, 126, 127, 128, 129, 130, 131, 132, 133, 134, 135, 136, 137, 138, 139, 140, 7, 141, 13, 142, 143, 144, 145, 146, 147, 148, 149, 150, 151, 152, 153, 154, 155, 156, 27, 28, 29, 30, 31, 157, 158, 159, 160, 161, 162, 163, 164, 165, 166, 167, 168, 169, 11, 170, 12, 9, 171, 172, 173, 174, 175, 176, 177, 178, 179, 180, 181, 182, 183, 184, 185, 186, 187, 188, 189, 190, 191, 215, 216, 217, 218, 219, 220, 203, 204, 205, 206, 207, 208, 209, 210, 211, 212, 213, 214] (by decide +kernel) (by decide +kernel)
set_option maxRecDepth 20000 in
theorem gX6_text_X1_read : GoodIn wsX6_text (va_wsS RX6 254 yX1_read wsX1_read) := goodIn_app (goodIn_of _ (by decide +kernel)) ggX6_text_X1_read
set_option maxRecDepth 20000 in
theorem ggX6_text_X5_clear : GoodIn wsX6_text wsX5_clear := goodIn_r _ [195, 56, 215, 216, 217, 218, 219, 220] (by decide +kernel) (by decide +kernel)
set_option maxRecDepth 20000 in
theorem gX6_text_X5_clear : GoodIn wsX6_text (wsV RX6 251 RX5 yX5_clear wsX5_clear) := goodIn_app (goodIn_of _ (by decide +kernel)) ggX6_text_X5_clear
theorem dX6_text_0 : decode cX6_text 0 = .ok (.aload_n 0, 1) := by decide +kernel
theorem dX6_text_1 : decode cX6_text 1 = .ok (.getfield 16, 3) := by decide +kernel
theorem dX6_text_4 : decode cX6_text 4 = .ok (.aload_n 0, 1) := by decide +kernel
theorem dX6_text_5 : decode cX6_text 5 = .ok (.getfield 10, 3) := by decide +kernel
theorem dX6_text_8 : decode cX6_text 8 = .ok (.invokevirtual 201, 3) := by decide +kernel
theorem dX6_text_11 : decode cX6_text 11 = .ok (.aload_n 0, 1) := by decide +kernel
theorem dX6_text_12 : decode cX6_text 12 = .ok (.getfield 25, 3) := by decide +kernel
theorem dX6_text_15 : decode cX6_text 15 = .ok (.aload_n 0, 1) := by decide +kernel
theorem dX6_text_16 : decode cX6_text 16 = .ok (.getfield 16, 3) := by decide +kernel
theorem dX6_text_19 : decode cX6_text 19 = .ok (.invokestatic 254, 3) := by decide +kernel
theorem dX6_text_22 : decode cX6_text 22 = .ok (.istore_n 1, 1) := by decide +kernel
theorem dX6_text_23 : decode cX6_text 23 = .ok (.iload_n 1, 1) := by decide +kernel
theorem dX6_text_24 : decode cX6_text 24 = .ok (.ifCond .lt 14, 3) := by decide +kernel
theorem dX6_text_27 : decode cX6_text 27 = .ok (.aload_n 0, 1) := by decide +kernel
theorem dX6_text_28 : decode cX6_text 28 = .ok (.getfield 10, 3) := by decide +kernel
theorem dX6_text_31 : decode cX6_text 31 = .ok (.aload_n 0, 1) := by decide +kernel
theorem dX6_text_32 : decode cX6_text 32 = .ok (.getfield 16, 3) := by decide +kernel
theorem dX6_text_35 : decode cX6_text 35 = .ok (.invokevirtual 201, 3) := by decide +kernel
theorem dX6_text_38 : decode cX6_text 38 = .ok (.aload_n 0, 1) := by decide +kernel
theorem dX6_text_39 : decode cX6_text 39 = .ok (.getfield 25, 3) := by decide +kernel
theorem dX6_text_42 : decode cX6_text 42 = .ok (.invokevirtual 251, 3) := by decide +kernel
theorem dX6_text_45 : decode cX6_text 45 = .ok (.pop, 1) := by decide +kernel
theorem dX6_text_46 : decode cX6_text 46 = .ok (.iload_n 1, 1) := by decide +kernel
theorem dX6_text_47 : decode cX6_text 47 = .ok (.ireturn, 1) := by decide +kernel
set_option maxRecDepth 20000 in
theorem ggX6_hold_X6_within : GoodIn wsX6_hold wsX6_within := goodIn_r _ [5] (by decide +kernel) (by decide +kernel)
set_option maxRecDepth 20000 in
theorem gX6_hold_X6_within : GoodIn wsX6_hold (va_wsS RX6 44 yX6_within wsX6_within) := goodIn_app (goodIn_of _ (by decide +kernel)) ggX6_hold_X6_within
set_option maxRecDepth 20000 in
theorem ggX6_hold_X6_finding : GoodIn wsX6_hold wsX6_finding := goodIn_r _ [9, 10, 11, 12, 13, 4, 14, 15, 16, 17, 29, 30, 31, 32, 33, 34, 35] (by decide +kernel) (by decide +kernel)
set_option maxRecDepth 20000 in
theorem gX6_hold_X6_finding : GoodIn wsX6_hold (wsV RX6 48 RX6 yX6_finding wsX6_finding) := goodIn_app (goodIn_of _ (by decide +kernel)) ggX6_hold_X6_finding
set_option maxRecDepth 20000 in
theorem ggX6_hold_X2_seedAt : GoodIn wsX6_hold wsX2_seedAt := goodIn_r _ [22, 23, 24, 25, 26, 21, 27, 28, 36, 37, 38, 39, 40, 41, 42, 43] (by decide +kernel) (by decide +kernel)
set_option maxRecDepth 20000 in
theorem gX6_hold_X2_seedAt : GoodIn wsX6_hold (wsV RX6 105 RX2 yX2_seedAt wsX2_seedAt) := goodIn_app (goodIn_of _ (by decide +kernel)) ggX6_hold_X2_seedAt
set_option maxRecDepth 20000 in
theorem ggX6_hold_X6_put : GoodIn wsX6_hold wsX6_put := goodIn_r _ [17] (by decide +kernel) (by decide +kernel)
set_option maxRecDepth 20000 in
theorem gX6_hold_X6_put : GoodIn wsX6_hold (va_wsS RX6 263 yX6_put wsX6_put) := goodIn_app (goodIn_of _ (by decide +kernel)) ggX6_hold_X6_put
theorem dX6_hold_0 : decode cX6_hold 0 = .ok (.iload_n 1, 1) := by decide +kernel
theorem dX6_hold_1 : decode cX6_hold 1 = .ok (.iconst 0, 1) := by decide +kernel
theorem dX6_hold_2 : decode cX6_hold 2 = .ok (.bipush 9, 2) := by decide +kernel
theorem dX6_hold_4 : decode cX6_hold 4 = .ok (.invokestatic 44, 3) := by decide +kernel
theorem dX6_hold_7 : decode cX6_hold 7 = .ok (.ifCond .ne 9, 3) := by decide +kernel
theorem dX6_hold_10 : decode cX6_hold 10 = .ok (.aload_n 0, 1) := by decide +kernel
theorem dX6_hold_11 : decode cX6_hold 11 = .ok (.iconst 0, 1) := by decide +kernel
theorem dX6_hold_12 : decode cX6_hold 12 = .ok (.invokevirtual 48, 3) := by decide +kernel
theorem dX6_hold_15 : decode cX6_hold 15 = .ok (.ireturn, 1) := by decide +kernel
theorem dX6_hold_16 : decode cX6_hold 16 = .ok (.iload_n 2, 1) := by decide +kernel
theorem dX6_hold_17 : decode cX6_hold 17 = .ok (.iconst (-1), 1) := by decide +kernel
theorem dX6_hold_18 : decode cX6_hold 18 = .ok (.if_icmp .eq 20, 3) := by decide +kernel
theorem dX6_hold_21 : decode cX6_hold 21 = .ok (.aload_n 0, 1) := by decide +kernel
theorem dX6_hold_22 : decode cX6_hold 22 = .ok (.getfield 10, 3) := by decide +kernel
theorem dX6_hold_25 : decode cX6_hold 25 = .ok (.iload_n 2, 1) := by decide +kernel
theorem dX6_hold_26 : decode cX6_hold 26 = .ok (.invokevirtual 105, 3) := by decide +kernel
theorem dX6_hold_29 : decode cX6_hold 29 = .ok (.ifnonnull 9, 3) := by decide +kernel
theorem dX6_hold_32 : decode cX6_hold 32 = .ok (.aload_n 0, 1) := by decide +kernel
theorem dX6_hold_33 : decode cX6_hold 33 = .ok (.iconst 0, 1) := by decide +kernel
theorem dX6_hold_34 : decode cX6_hold 34 = .ok (.invokevirtual 48, 3) := by decide +kernel
theorem dX6_hold_37 : decode cX6_hold 37 = .ok (.ireturn, 1) := by decide +kernel
theorem dX6_hold_38 : decode cX6_hold 38 = .ok (.aload_n 0, 1) := by decide +kernel
theorem dX6_hold_39 : decode cX6_hold 39 = .ok (.getfield 10, 3) := by decide +kernel
theorem dX6_hold_42 : decode cX6_hold 42 = .ok (.getfield 260, 3) := by decide +kernel
theorem dX6_hold_45 : decode cX6_hold 45 = .ok (.iload_n 1, 1) := by decide +kernel
theorem dX6_hold_46 : decode cX6_hold 46 = .ok (.iload_n 2, 1) := by decide +kernel
theorem dX6_hold_47 : decode cX6_hold 47 = .ok (.invokestatic 263, 3) := by decide +kernel
theorem dX6_hold_50 : decode cX6_hold 50 = .ok (.iconst 1, 1) := by decide +kernel
theorem dX6_hold_51 : decode cX6_hold 51 = .ok (.ireturn, 1) := by decide +kernel
set_option maxRecDepth 20000 in
theorem ggX6_as_X6_within : GoodIn wsX6_as wsX6_within := goodIn_r _ [5] (by decide +kernel) (by decide +kernel)
set_option maxRecDepth 20000 in
theorem gX6_as_X6_within : GoodIn wsX6_as (va_wsS RX6 44 yX6_within wsX6_within) := goodIn_app (goodIn_of _ (by decide +kernel)) ggX6_as_X6_within
set_option maxRecDepth 20000 in
theorem ggX6_as_X6_isKind : GoodIn wsX6_as wsX6_isKind := goodIn_r _ [8, 2, 3, 4, 5] (by decide +kernel) (by decide +kernel)
set_option maxRecDepth 20000 in
theorem gX6_as_X6_isKind : GoodIn wsX6_as (va_wsS RX6 91 yX6_isKind wsX6_isKind) := goodIn_app (goodIn_of _ (by decide +kernel)) ggX6_as_X6_isKind
set_option maxRecDepth 20000 in
theorem ggX6_as_X6_finding : GoodIn wsX6_as wsX6_finding := goodIn_r _ [12, 13, 14, 15, 16, 4, 17, 18, 19, 20, 41, 42, 43, 44, 45, 46, 47] (by decide +kernel) (by decide +kernel)
set_option maxRecDepth 20000 in
theorem gX6_as_X6_finding : GoodIn wsX6_as (wsV RX6 48 RX6 yX6_finding wsX6_finding) := goodIn_app (goodIn_of _ (by decide +kernel)) ggX6_as_X6_finding
set_option maxRecDepth 20000 in
theorem ggX6_as_X6_at : GoodIn wsX6_as wsX6_at := goodIn_r _ [17] (by decide +kernel) (by decide +kernel)
set_option maxRecDepth 20000 in
theorem gX6_as_X6_at : GoodIn wsX6_as (va_wsS RX6 267 yX6_at wsX6_at) := goodIn_app (goodIn_of _ (by decide +kernel)) ggX6_as_X6_at
set_option maxRecDepth 20000 in
theorem ggX6_as_X2_seedAt : GoodIn wsX6_as wsX2_seedAt := goodIn_r _ [25, 26, 27, 28, 29, 24, 30, 31, 48, 49, 50, 51, 52, 53, 54, 55] (by decide +kernel) (by decide +kernel)
set_option maxRecDepth 20000 in
theorem gX6_as_X2_seedAt : GoodIn wsX6_as (wsV RX6 105 RX2 yX2_seedAt wsX2_seedAt) := goodIn_app (goodIn_of _ (by decide +kernel)) ggX6_as_X2_seedAt
set_option maxRecDepth 20000 in
theorem ggX6_as_X3_isA : GoodIn wsX6_as wsX3_isA := goodIn_r _ [36, 37, 38, 39, 35, 40, 56, 57, 58, 59] (by decide +kernel) (by decide +kernel)
set_option maxRecDepth 20000 in
theorem gX6_as_X3_isA : GoodIn wsX6_as (wsV RX6 271 RX3 yX3_isA wsX3_isA) := goodIn_app (goodIn_of _ (by decide +kernel)) ggX6_as_X3_isA
theorem dX6_as_0 : decode cX6_as 0 = .ok (.iload_n 1, 1) := by decide +kernel
theorem dX6_as_1 : decode cX6_as 1 = .ok (.iconst 0, 1) := by decide +kernel
theorem dX6_as_2 : decode cX6_as 2 = .ok (.bipush 9, 2) := by decide +kernel
theorem dX6_as_4 : decode cX6_as 4 = .ok (.invokestatic 44, 3) := by decide +kernel
theorem dX6_as_7 : decode cX6_as 7 = .ok (.ifCond .eq 10, 3) := by decide +kernel
theorem dX6_as_10 : decode cX6_as 10 = .ok (.iload_n 2, 1) := by decide +kernel
theorem dX6_as_11 : decode cX6_as 11 = .ok (.invokestatic 91, 3) := by decide +kernel
theorem dX6_as_14 : decode cX6_as 14 = .ok (.ifCond .ne 9, 3) := by decide +kernel
theorem dX6_as_17 : decode cX6_as 17 = .ok (.aload_n 0, 1) := by decide +kernel
theorem dX6_as_18 : decode cX6_as 18 = .ok (.iconst 0, 1) := by decide +kernel
theorem dX6_as_19 : decode cX6_as 19 = .ok (.invokevirtual 48, 3) := by decide +kernel
theorem dX6_as_22 : decode cX6_as 22 = .ok (.ireturn, 1) := by decide +kernel
theorem dX6_as_23 : decode cX6_as 23 = .ok (.aload_n 0, 1) := by decide +kernel
theorem dX6_as_24 : decode cX6_as 24 = .ok (.getfield 10, 3) := by decide +kernel
theorem dX6_as_27 : decode cX6_as 27 = .ok (.getfield 260, 3) := by decide +kernel
theorem dX6_as_30 : decode cX6_as 30 = .ok (.iload_n 1, 1) := by decide +kernel
theorem dX6_as_31 : decode cX6_as 31 = .ok (.invokestatic 267, 3) := by decide +kernel
theorem dX6_as_34 : decode cX6_as 34 = .ok (.istore_n 3, 1) := by decide +kernel
theorem dX6_as_35 : decode cX6_as 35 = .ok (.aload_n 0, 1) := by decide +kernel
theorem dX6_as_36 : decode cX6_as 36 = .ok (.getfield 10, 3) := by decide +kernel
theorem dX6_as_39 : decode cX6_as 39 = .ok (.iload_n 3, 1) := by decide +kernel
theorem dX6_as_40 : decode cX6_as 40 = .ok (.invokevirtual 105, 3) := by decide +kernel
theorem dX6_as_43 : decode cX6_as 43 = .ok (.astore 4, 2) := by decide +kernel
theorem dX6_as_45 : decode cX6_as 45 = .ok (.aload 4, 2) := by decide +kernel
theorem dX6_as_47 : decode cX6_as 47 = .ok (.ifnonnull 9, 3) := by decide +kernel
theorem dX6_as_50 : decode cX6_as 50 = .ok (.aload_n 0, 1) := by decide +kernel
theorem dX6_as_51 : decode cX6_as 51 = .ok (.iconst 5, 1) := by decide +kernel
theorem dX6_as_52 : decode cX6_as 52 = .ok (.invokevirtual 48, 3) := by decide +kernel
theorem dX6_as_55 : decode cX6_as 55 = .ok (.ireturn, 1) := by decide +kernel
theorem dX6_as_56 : decode cX6_as 56 = .ok (.aload 4, 2) := by decide +kernel
theorem dX6_as_58 : decode cX6_as 58 = .ok (.iload_n 2, 1) := by decide +kernel
theorem dX6_as_59 : decode cX6_as 59 = .ok (.invokevirtual 271, 3) := by decide +kernel
theorem dX6_as_62 : decode cX6_as 62 = .ok (.ifCond .eq 7, 3) := by decide +kernel
theorem dX6_as_65 : decode cX6_as 65 = .ok (.iload_n 3, 1) := by decide +kernel
theorem dX6_as_66 : decode cX6_as 66 = .ok (.goto 8, 3) := by decide +kernel
theorem dX6_as_69 : decode cX6_as 69 = .ok (.aload_n 0, 1) := by decide +kernel
theorem dX6_as_70 : decode cX6_as 70 = .ok (.iconst 2, 1) := by decide +kernel
theorem dX6_as_71 : decode cX6_as 71 = .ok (.invokevirtual 48, 3) := by decide +kernel
theorem dX6_as_74 : decode cX6_as 74 = .ok (.ireturn, 1) := by decide +kernel
set_option maxRecDepth 20000 in
theorem ggX6_sheet_X6_sheetAt : GoodIn wsX6_sheet wsX6_sheetAt := goodIn_r _ [5, 6, 33, 34, 35, 36, 37, 38, 39] (by decide +kernel) (by decide +kernel)
set_option maxRecDepth 20000 in
theorem gX6_sheet_X6_sheetAt : GoodIn wsX6_sheet (wsV RX6 221 RX6 yX6_sheetAt wsX6_sheetAt) := goodIn_app (goodIn_of _ (by decide +kernel)) ggX6_sheet_X6_sheetAt
set_option maxRecDepth 20000 in
theorem ggX6_sheet_X4_canHave : GoodIn wsX6_sheet wsX4_canHave := goodIn_r _ [10] (by decide +kernel) (by decide +kernel)
set_option maxRecDepth 20000 in
theorem gX6_sheet_X4_canHave : GoodIn wsX6_sheet (va_wsS RX6 274 yX4_canHave wsX4_canHave) := goodIn_app (goodIn_of _ (by decide +kernel)) ggX6_sheet_X4_canHave
set_option maxRecDepth 20000 in
theorem ggX6_sheet_X6_finding : GoodIn wsX6_sheet wsX6_finding := goodIn_r _ [14, 15, 16, 17, 18, 4, 19, 20, 21, 22, 33, 34, 35, 36, 37, 38, 39] (by decide +kernel) (by decide +kernel)
set_option maxRecDepth 20000 in
theorem gX6_sheet_X6_finding : GoodIn wsX6_sheet (wsV RX6 48 RX6 yX6_finding wsX6_finding) := goodIn_app (goodIn_of _ (by decide +kernel)) ggX6_sheet_X6_finding
set_option maxRecDepth 20000 in
theorem ggX6_sheet_X4_lay : GoodIn wsX6_sheet wsX4_lay := goodIn_r _ [26, 27, 28, 29, 30, 31, 32] (by decide +kernel) (by decide +kernel)
set_option maxRecDepth 20000 in
theorem gX6_sheet_X4_lay : GoodIn wsX6_sheet (wsV RX6 277 RX4 yX4_lay wsX4_lay) := goodIn_app (goodIn_of _ (by decide +kernel)) ggX6_sheet_X4_lay
theorem dX6_sheet_0 : decode cX6_sheet 0 = .ok (.aload_n 0, 1) := by decide +kernel
theorem dX6_sheet_1 : decode cX6_sheet 1 = .ok (.iload_n 1, 1) := by decide +kernel
theorem dX6_sheet_2 : decode cX6_sheet 2 = .ok (.invokevirtual 221, 3) := by decide +kernel
theorem dX6_sheet_5 : decode cX6_sheet 5 = .ok (.astore 4, 2) := by decide +kernel
theorem dX6_sheet_7 : decode cX6_sheet 7 = .ok (.aload 4, 2) := by decide +kernel
theorem dX6_sheet_9 : decode cX6_sheet 9 = .ok (.ifnull 10, 3) := by decide +kernel
theorem dX6_sheet_12 : decode cX6_sheet 12 = .ok (.iload_n 2, 1) := by decide +kernel
theorem dX6_sheet_13 : decode cX6_sheet 13 = .ok (.invokestatic 274, 3) := by decide +kernel
theorem dX6_sheet_16 : decode cX6_sheet 16 = .ok (.ifCond .ne 9, 3) := by decide +kernel
theorem dX6_sheet_19 : decode cX6_sheet 19 = .ok (.aload_n 0, 1) := by decide +kernel
theorem dX6_sheet_20 : decode cX6_sheet 20 = .ok (.iconst 0, 1) := by decide +kernel
theorem dX6_sheet_21 : decode cX6_sheet 21 = .ok (.invokevirtual 48, 3) := by decide +kernel
theorem dX6_sheet_24 : decode cX6_sheet 24 = .ok (.ireturn, 1) := by decide +kernel
theorem dX6_sheet_25 : decode cX6_sheet 25 = .ok (.iload_n 3, 1) := by decide +kernel
theorem dX6_sheet_26 : decode cX6_sheet 26 = .ok (.ifCond .ge 10, 3) := by decide +kernel
theorem dX6_sheet_29 : decode cX6_sheet 29 = .ok (.aload_n 0, 1) := by decide +kernel
theorem dX6_sheet_30 : decode cX6_sheet 30 = .ok (.bipush 6, 2) := by decide +kernel
theorem dX6_sheet_32 : decode cX6_sheet 32 = .ok (.invokevirtual 48, 3) := by decide +kernel
theorem dX6_sheet_35 : decode cX6_sheet 35 = .ok (.ireturn, 1) := by decide +kernel
theorem dX6_sheet_36 : decode cX6_sheet 36 = .ok (.iload_n 3, 1) := by decide +kernel
theorem dX6_sheet_37 : decode cX6_sheet 37 = .ok (.bipush 40, 2) := by decide +kernel
theorem dX6_sheet_39 : decode cX6_sheet 39 = .ok (.if_icmp .le 9, 3) := by decide +kernel
theorem dX6_sheet_42 : decode cX6_sheet 42 = .ok (.aload_n 0, 1) := by decide +kernel
theorem dX6_sheet_43 : decode cX6_sheet 43 = .ok (.iconst 0, 1) := by decide +kernel
theorem dX6_sheet_44 : decode cX6_sheet 44 = .ok (.invokevirtual 48, 3) := by decide +kernel
theorem dX6_sheet_47 : decode cX6_sheet 47 = .ok (.ireturn, 1) := by decide +kernel
theorem dX6_sheet_48 : decode cX6_sheet 48 = .ok (.aload 4, 2) := by decide +kernel
theorem dX6_sheet_50 : decode cX6_sheet 50 = .ok (.iload_n 2, 1) := by decide +kernel
theorem dX6_sheet_51 : decode cX6_sheet 51 = .ok (.iload_n 3, 1) := by decide +kernel
theorem dX6_sheet_52 : decode cX6_sheet 52 = .ok (.invokevirtual 277, 3) := by decide +kernel
theorem dX6_sheet_55 : decode cX6_sheet 55 = .ok (.aload 4, 2) := by decide +kernel
theorem dX6_sheet_57 : decode cX6_sheet 57 = .ok (.getfield 280, 3) := by decide +kernel
theorem dX6_sheet_60 : decode cX6_sheet 60 = .ok (.ireturn, 1) := by decide +kernel
set_option maxRecDepth 20000 in
theorem ggX6_write_X6_sheetAt : GoodIn wsX6_write wsX6_sheetAt := goodIn_r _ [5, 6, 36, 37, 38, 39, 40, 41, 42] (by decide +kernel) (by decide +kernel)
set_option maxRecDepth 20000 in
theorem gX6_write_X6_sheetAt : GoodIn wsX6_write (wsV RX6 221 RX6 yX6_sheetAt wsX6_sheetAt) := goodIn_app (goodIn_of _ (by decide +kernel)) ggX6_write_X6_sheetAt
set_option maxRecDepth 20000 in
theorem ggX6_write_X6_finding : GoodIn wsX6_write wsX6_finding := goodIn_r _ [10, 11, 12, 13, 14, 4, 15, 16, 17, 18, 36, 37, 38, 39, 40, 41, 42] (by decide +kernel) (by decide +kernel)
set_option maxRecDepth 20000 in
theorem gX6_write_X6_finding : GoodIn wsX6_write (wsV RX6 48 RX6 yX6_finding wsX6_finding) := goodIn_app (goodIn_of _ (by decide +kernel)) ggX6_write_X6_finding
set_option maxRecDepth 20000 in
theorem ggX6_write_X4_isMissing : GoodIn wsX6_write wsX4_isMissing := goodIn_r _ [23, 24, 33, 34, 35] (by decide +kernel) (by decide +kernel)
set_option maxRecDepth 20000 in
theorem gX6_write_X4_isMissing : GoodIn wsX6_write (wsV RX6 225 RX4 yX4_isMissing wsX4_isMissing) := goodIn_app (goodIn_of _ (by decide +kernel)) ggX6_write_X4_isMissing
set_option maxRecDepth 20000 in
theorem ggX6_write_X6_within : GoodIn wsX6_write wsX6_within := goodIn_r _ [27] (by decide +kernel) (by decide +kernel)
set_option maxRecDepth 20000 in
theorem gX6_write_X6_within : GoodIn wsX6_write (va_wsS RX6 44 yX6_within wsX6_within) := goodIn_app (goodIn_of _ (by decide +kernel)) ggX6_write_X6_within
set_option maxRecDepth 20000 in
theorem ggX6_write_X4_note : GoodIn wsX6_write wsX4_note := goodIn_r _ [31, 24, 32, 17, 4, 18, 33, 34, 35] (by decide +kernel) (by decide +kernel)
set_option maxRecDepth 20000 in
theorem gX6_write_X4_note : GoodIn wsX6_write (wsV RX6 283 RX4 yX4_note wsX4_note) := goodIn_app (goodIn_of _ (by decide +kernel)) ggX6_write_X4_note
theorem dX6_write_0 : decode cX6_write 0 = .ok (.aload_n 0, 1) := by decide +kernel
theorem dX6_write_1 : decode cX6_write 1 = .ok (.iload_n 1, 1) := by decide +kernel
theorem dX6_write_2 : decode cX6_write 2 = .ok (.invokevirtual 221, 3) := by decide +kernel
theorem dX6_write_5 : decode cX6_write 5 = .ok (.astore 4, 2) := by decide +kernel
theorem dX6_write_7 : decode cX6_write 7 = .ok (.aload 4, 2) := by decide +kernel
theorem dX6_write_9 : decode cX6_write 9 = .ok (.ifnonnull 9, 3) := by decide +kernel
theorem dX6_write_12 : decode cX6_write 12 = .ok (.aload_n 0, 1) := by decide +kernel
theorem dX6_write_13 : decode cX6_write 13 = .ok (.iconst 0, 1) := by decide +kernel
theorem dX6_write_14 : decode cX6_write 14 = .ok (.invokevirtual 48, 3) := by decide +kernel
theorem dX6_write_17 : decode cX6_write 17 = .ok (.ireturn, 1) := by decide +kernel
theorem dX6_write_18 : decode cX6_write 18 = .ok (.aload 4, 2) := by decide +kernel
theorem dX6_write_20 : decode cX6_write 20 = .ok (.invokevirtual 225, 3) := by decide +kernel
theorem dX6_write_23 : decode cX6_write 23 = .ok (.ifCond .eq 9, 3) := by decide +kernel
theorem dX6_write_26 : decode cX6_write 26 = .ok (.aload_n 0, 1) := by decide +kernel
theorem dX6_write_27 : decode cX6_write 27 = .ok (.iconst 5, 1) := by decide +kernel
theorem dX6_write_28 : decode cX6_write 28 = .ok (.invokevirtual 48, 3) := by decide +kernel
theorem dX6_write_31 : decode cX6_write 31 = .ok (.ireturn, 1) := by decide +kernel
theorem dX6_write_32 : decode cX6_write 32 = .ok (.iload_n 2, 1) := by decide +kernel
theorem dX6_write_33 : decode cX6_write 33 = .ok (.iconst 0, 1) := by decide +kernel
theorem dX6_write_34 : decode cX6_write 34 = .ok (.aload 4, 2) := by decide +kernel
theorem dX6_write_36 : decode cX6_write 36 = .ok (.getfield 280, 3) := by decide +kernel
theorem dX6_write_39 : decode cX6_write 39 = .ok (.iconst 1, 1) := by decide +kernel
theorem dX6_write_40 : decode cX6_write 40 = .ok (.isub, 1) := by decide +kernel
theorem dX6_write_41 : decode cX6_write 41 = .ok (.invokestatic 44, 3) := by decide +kernel
theorem dX6_write_44 : decode cX6_write 44 = .ok (.ifCond .ne 9, 3) := by decide +kernel
theorem dX6_write_47 : decode cX6_write 47 = .ok (.aload_n 0, 1) := by decide +kernel
theorem dX6_write_48 : decode cX6_write 48 = .ok (.iconst 0, 1) := by decide +kernel
theorem dX6_write_49 : decode cX6_write 49 = .ok (.invokevirtual 48, 3) := by decide +kernel
theorem dX6_write_52 : decode cX6_write 52 = .ok (.ireturn, 1) := by decide +kernel
theorem dX6_write_53 : decode cX6_write 53 = .ok (.aload 4, 2) := by decide +kernel
theorem dX6_write_55 : decode cX6_write 55 = .ok (.iload_n 2, 1) := by decide +kernel
theorem dX6_write_56 : decode cX6_write 56 = .ok (.iload_n 3, 1) := by decide +kernel
theorem dX6_write_57 : decode cX6_write 57 = .ok (.invokevirtual 283, 3) := by decide +kernel
theorem dX6_write_60 : decode cX6_write 60 = .ok (.iconst 1, 1) := by decide +kernel
theorem dX6_write_61 : decode cX6_write 61 = .ok (.ireturn, 1) := by decide +kernel
set_option maxRecDepth 20000 in
theorem ggX6_copy_X6_sheetAt : GoodIn wsX6_copy wsX6_sheetAt := goodIn_r _ [5, 6, 43, 44, 45, 46, 47, 48, 49] (by decide +kernel) (by decide +kernel)
set_option maxRecDepth 20000 in
theorem gX6_copy_X6_sheetAt : GoodIn wsX6_copy (wsV RX6 221 RX6 yX6_sheetAt wsX6_sheetAt) := goodIn_app (goodIn_of _ (by decide +kernel)) ggX6_copy_X6_sheetAt
set_option maxRecDepth 20000 in
theorem ggX6_copy_X6_finding : GoodIn wsX6_copy wsX6_finding := goodIn_r _ [10, 11, 12, 13, 14, 4, 15, 16, 17, 18, 43, 44, 45, 46, 47, 48, 49] (by decide +kernel) (by decide +kernel)
set_option maxRecDepth 20000 in
theorem gX6_copy_X6_finding : GoodIn wsX6_copy (wsV RX6 48 RX6 yX6_finding wsX6_finding) := goodIn_app (goodIn_of _ (by decide +kernel)) ggX6_copy_X6_finding
set_option maxRecDepth 20000 in
theorem ggX6_copy_X4_isMissing : GoodIn wsX6_copy wsX4_isMissing := goodIn_r _ [23, 24, 40, 41, 42] (by decide +kernel) (by decide +kernel)
set_option maxRecDepth 20000 in
theorem gX6_copy_X4_isMissing : GoodIn wsX6_copy (wsV RX6 225 RX4 yX4_isMissing wsX4_isMissing) := goodIn_app (goodIn_of _ (by decide +kernel)) ggX6_copy_X4_isMissing
set_option maxRecDepth 20000 in
theorem ggX6_copy_X4_has : GoodIn wsX6_copy wsX4_has := goodIn_r _ [28, 29, 40, 41, 42] (by decide +kernel) (by decide +kernel)
set_option maxRecDepth 20000 in
theorem gX6_copy_X4_has : GoodIn wsX6_copy (wsV RX6 289 RX4 yX4_has wsX4_has) := goodIn_app (goodIn_of _ (by decide +kernel)) ggX6_copy_X4_has
set_option maxRecDepth 20000 in
theorem ggX6_copy_X4_take : GoodIn wsX6_copy wsX4_take := goodIn_r _ [33, 34, 35, 36, 37, 38, 39, 26, 27, 22, 28, 29, 40, 41, 42] (by decide +kernel) (by decide +kernel)
set_option maxRecDepth 20000 in
theorem gX6_copy_X4_take : GoodIn wsX6_copy (wsV RX6 292 RX4 yX4_take wsX4_take) := goodIn_app (goodIn_of _ (by decide +kernel)) ggX6_copy_X4_take
theorem dX6_copy_0 : decode cX6_copy 0 = .ok (.aload_n 0, 1) := by decide +kernel
theorem dX6_copy_1 : decode cX6_copy 1 = .ok (.iload_n 1, 1) := by decide +kernel
theorem dX6_copy_2 : decode cX6_copy 2 = .ok (.invokevirtual 221, 3) := by decide +kernel
theorem dX6_copy_5 : decode cX6_copy 5 = .ok (.astore 6, 2) := by decide +kernel
theorem dX6_copy_7 : decode cX6_copy 7 = .ok (.aload_n 0, 1) := by decide +kernel
theorem dX6_copy_8 : decode cX6_copy 8 = .ok (.iload_n 3, 1) := by decide +kernel
theorem dX6_copy_9 : decode cX6_copy 9 = .ok (.invokevirtual 221, 3) := by decide +kernel
theorem dX6_copy_12 : decode cX6_copy 12 = .ok (.astore 7, 2) := by decide +kernel
theorem dX6_copy_14 : decode cX6_copy 14 = .ok (.aload 6, 2) := by decide +kernel
theorem dX6_copy_16 : decode cX6_copy 16 = .ok (.ifnull 8, 3) := by decide +kernel
theorem dX6_copy_19 : decode cX6_copy 19 = .ok (.aload 7, 2) := by decide +kernel
theorem dX6_copy_21 : decode cX6_copy 21 = .ok (.ifnonnull 9, 3) := by decide +kernel
theorem dX6_copy_24 : decode cX6_copy 24 = .ok (.aload_n 0, 1) := by decide +kernel
theorem dX6_copy_25 : decode cX6_copy 25 = .ok (.iconst 0, 1) := by decide +kernel
theorem dX6_copy_26 : decode cX6_copy 26 = .ok (.invokevirtual 48, 3) := by decide +kernel
theorem dX6_copy_29 : decode cX6_copy 29 = .ok (.ireturn, 1) := by decide +kernel
theorem dX6_copy_30 : decode cX6_copy 30 = .ok (.aload 6, 2) := by decide +kernel
theorem dX6_copy_32 : decode cX6_copy 32 = .ok (.invokevirtual 225, 3) := by decide +kernel
theorem dX6_copy_35 : decode cX6_copy 35 = .ok (.ifCond .ne 11, 3) := by decide +kernel
theorem dX6_copy_38 : decode cX6_copy 38 = .ok (.aload 7, 2) := by decide +kernel
theorem dX6_copy_40 : decode cX6_copy 40 = .ok (.invokevirtual 225, 3) := by decide +kernel
theorem dX6_copy_43 : decode cX6_copy 43 = .ok (.ifCond .eq 9, 3) := by decide +kernel
theorem dX6_copy_46 : decode cX6_copy 46 = .ok (.aload_n 0, 1) := by decide +kernel
theorem dX6_copy_47 : decode cX6_copy 47 = .ok (.iconst 5, 1) := by decide +kernel
theorem dX6_copy_48 : decode cX6_copy 48 = .ok (.invokevirtual 48, 3) := by decide +kernel
theorem dX6_copy_51 : decode cX6_copy 51 = .ok (.ireturn, 1) := by decide +kernel
theorem dX6_copy_52 : decode cX6_copy 52 = .ok (.aload 6, 2) := by decide +kernel
theorem dX6_copy_54 : decode cX6_copy 54 = .ok (.getfield 286, 3) := by decide +kernel
theorem dX6_copy_57 : decode cX6_copy 57 = .ok (.aload 7, 2) := by decide +kernel
theorem dX6_copy_59 : decode cX6_copy 59 = .ok (.getfield 286, 3) := by decide +kernel
theorem dX6_copy_62 : decode cX6_copy 62 = .ok (.if_icmp .eq 9, 3) := by decide +kernel
theorem dX6_copy_65 : decode cX6_copy 65 = .ok (.aload_n 0, 1) := by decide +kernel
theorem dX6_copy_66 : decode cX6_copy 66 = .ok (.iconst 2, 1) := by decide +kernel
theorem dX6_copy_67 : decode cX6_copy 67 = .ok (.invokevirtual 48, 3) := by decide +kernel
theorem dX6_copy_70 : decode cX6_copy 70 = .ok (.ireturn, 1) := by decide +kernel
theorem dX6_copy_71 : decode cX6_copy 71 = .ok (.aload 6, 2) := by decide +kernel
theorem dX6_copy_73 : decode cX6_copy 73 = .ok (.iload_n 2, 1) := by decide +kernel
theorem dX6_copy_74 : decode cX6_copy 74 = .ok (.iload 5, 2) := by decide +kernel
theorem dX6_copy_76 : decode cX6_copy 76 = .ok (.invokevirtual 289, 3) := by decide +kernel
theorem dX6_copy_79 : decode cX6_copy 79 = .ok (.ifCond .eq 15, 3) := by decide +kernel
theorem dX6_copy_82 : decode cX6_copy 82 = .ok (.aload 7, 2) := by decide +kernel
theorem dX6_copy_84 : decode cX6_copy 84 = .ok (.iload 4, 2) := by decide +kernel
theorem dX6_copy_86 : decode cX6_copy 86 = .ok (.iload 5, 2) := by decide +kernel
theorem dX6_copy_88 : decode cX6_copy 88 = .ok (.invokevirtual 289, 3) := by decide +kernel
theorem dX6_copy_91 : decode cX6_copy 91 = .ok (.ifCond .ne 9, 3) := by decide +kernel
theorem dX6_copy_94 : decode cX6_copy 94 = .ok (.aload_n 0, 1) := by decide +kernel
theorem dX6_copy_95 : decode cX6_copy 95 = .ok (.iconst 0, 1) := by decide +kernel
theorem dX6_copy_96 : decode cX6_copy 96 = .ok (.invokevirtual 48, 3) := by decide +kernel
theorem dX6_copy_99 : decode cX6_copy 99 = .ok (.ireturn, 1) := by decide +kernel
theorem dX6_copy_100 : decode cX6_copy 100 = .ok (.aload 7, 2) := by decide +kernel
theorem dX6_copy_102 : decode cX6_copy 102 = .ok (.iload 4, 2) := by decide +kernel
theorem dX6_copy_104 : decode cX6_copy 104 = .ok (.aload 6, 2) := by decide +kernel
theorem dX6_copy_106 : decode cX6_copy 106 = .ok (.iload_n 2, 1) := by decide +kernel
theorem dX6_copy_107 : decode cX6_copy 107 = .ok (.iload 5, 2) := by decide +kernel
theorem dX6_copy_109 : decode cX6_copy 109 = .ok (.invokevirtual 292, 3) := by decide +kernel
theorem dX6_copy_112 : decode cX6_copy 112 = .ok (.iload 5, 2) := by decide +kernel
theorem dX6_copy_114 : decode cX6_copy 114 = .ok (.ireturn, 1) := by decide +kernel
set_option maxRecDepth 20000 in
theorem ggX6_load_X6_sheetAt : GoodIn wsX6_load wsX6_sheetAt := goodIn_r _ [6, 7, 57, 58, 59, 60, 61, 62, 63] (by decide +kernel) (by decide +kernel)
set_option maxRecDepth 20000 in
theorem gX6_load_X6_sheetAt : GoodIn wsX6_load (wsV RX6 221 RX6 yX6_sheetAt wsX6_sheetAt) := goodIn_app (goodIn_of _ (by decide +kernel)) ggX6_load_X6_sheetAt
set_option maxRecDepth 20000 in
theorem ggX6_load_X6_finding : GoodIn wsX6_load wsX6_finding := goodIn_r _ [11, 12, 13, 14, 15, 5, 16, 17, 18, 19, 57, 58, 59, 60, 61, 62, 63] (by decide +kernel) (by decide +kernel)
set_option maxRecDepth 20000 in
theorem gX6_load_X6_finding : GoodIn wsX6_load (wsV RX6 48 RX6 yX6_finding wsX6_finding) := goodIn_app (goodIn_of _ (by decide +kernel)) ggX6_load_X6_finding
set_option maxRecDepth 20000 in
theorem ggX6_load_X4_isMissing : GoodIn wsX6_load wsX4_isMissing := goodIn_r _ [24, 25, 54, 55, 56] (by decide +kernel) (by decide +kernel)
set_option maxRecDepth 20000 in
theorem gX6_load_X4_isMissing : GoodIn wsX6_load (wsV RX6 225 RX4 yX4_isMissing wsX4_isMissing) := goodIn_app (goodIn_of _ (by decide +kernel)) ggX6_load_X4_isMissing
set_option maxRecDepth 20000 in
theorem ggX6_load_X4_numberAt : GoodIn wsX6_load wsX4_numberAt := goodIn_r _ [29, 30, 15, 5, 16, 54, 55, 56] (by decide +kernel) (by decide +kernel)
set_option maxRecDepth 20000 in
theorem gX6_load_X4_numberAt : GoodIn wsX6_load (wsV RX6 296 RX4 yX4_numberAt wsX4_numberAt) := goodIn_app (goodIn_of _ (by decide +kernel)) ggX6_load_X4_numberAt
set_option maxRecDepth 20000 in
theorem ggX6_load_X6_within : GoodIn wsX6_load wsX6_within := goodIn_r _ [33] (by decide +kernel) (by decide +kernel)
set_option maxRecDepth 20000 in
theorem gX6_load_X6_within : GoodIn wsX6_load (va_wsS RX6 44 yX6_within wsX6_within) := goodIn_app (goodIn_of _ (by decide +kernel)) ggX6_load_X6_within
set_option maxRecDepth 20000 in
theorem ggX6_load_X2_becomePath : GoodIn wsX6_load wsX2_becomePath := goodIn_r _ [38, 39, 40, 41, 42, 37, 43, 44, 45, 46, 47, 48, 49, 50, 51, 52, 5, 53, 18, 19, 64, 65, 66, 67, 68, 69, 70, 71] (by decide +kernel) (by decide +kernel)
set_option maxRecDepth 20000 in
theorem gX6_load_X2_becomePath : GoodIn wsX6_load (wsV RX6 88 RX2 yX2_becomePath wsX2_becomePath) := goodIn_app (goodIn_of _ (by decide +kernel)) ggX6_load_X2_becomePath
theorem dX6_load_0 : decode cX6_load 0 = .ok (.aload_n 0, 1) := by decide +kernel
theorem dX6_load_1 : decode cX6_load 1 = .ok (.iload_n 1, 1) := by decide +kernel
theorem dX6_load_2 : decode cX6_load 2 = .ok (.invokevirtual 221, 3) := by decide +kernel
theorem dX6_load_5 : decode cX6_load 5 = .ok (.astore_n 2, 1) := by decide +kernel
theorem dX6_load_6 : decode cX6_load 6 = .ok (.aload_n 2, 1) := by decide +kernel
theorem dX6_load_7 : decode cX6_load 7 = .ok (.ifnonnull 9, 3) := by decide +kernel
theorem dX6_load_10 : decode cX6_load 10 = .ok (.aload_n 0, 1) := by decide +kernel
theorem dX6_load_11 : decode cX6_load 11 = .ok (.iconst 0, 1) := by decide +kernel
theorem dX6_load_12 : decode cX6_load 12 = .ok (.invokevirtual 48, 3) := by decide +kernel
theorem dX6_load_15 : decode cX6_load 15 = .ok (.ireturn, 1) := by decide +kernel
theorem dX6_load_16 : decode cX6_load 16 = .ok (.aload_n 2, 1) := by decide +kernel
theorem dX6_load_17 : decode cX6_load 17 = .ok (.invokevirtual 225, 3) := by decide +kernel
theorem dX6_load_20 : decode cX6_load 20 = .ok (.ifCond .eq 9, 3) := by decide +kernel
theorem dX6_load_23 : decode cX6_load 23 = .ok (.aload_n 0, 1) := by decide +kernel
theorem dX6_load_24 : decode cX6_load 24 = .ok (.iconst 5, 1) := by decide +kernel
theorem dX6_load_25 : decode cX6_load 25 = .ok (.invokevirtual 48, 3) := by decide +kernel
theorem dX6_load_28 : decode cX6_load 28 = .ok (.ireturn, 1) := by decide +kernel
theorem dX6_load_29 : decode cX6_load 29 = .ok (.iconst 0, 1) := by decide +kernel
theorem dX6_load_30 : decode cX6_load 30 = .ok (.istore_n 3, 1) := by decide +kernel
theorem dX6_load_31 : decode cX6_load 31 = .ok (.iconst 0, 1) := by decide +kernel
theorem dX6_load_32 : decode cX6_load 32 = .ok (.istore 4, 2) := by decide +kernel
theorem dX6_load_34 : decode cX6_load 34 = .ok (.iload 4, 2) := by decide +kernel
theorem dX6_load_36 : decode cX6_load 36 = .ok (.bipush 36, 2) := by decide +kernel
theorem dX6_load_38 : decode cX6_load 38 = .ok (.if_icmp .ge 53, 3) := by decide +kernel
theorem dX6_load_41 : decode cX6_load 41 = .ok (.iload 4, 2) := by decide +kernel
theorem dX6_load_43 : decode cX6_load 43 = .ok (.aload_n 2, 1) := by decide +kernel
theorem dX6_load_44 : decode cX6_load 44 = .ok (.getfield 280, 3) := by decide +kernel
theorem dX6_load_47 : decode cX6_load 47 = .ok (.if_icmp .ge 44, 3) := by decide +kernel
theorem dX6_load_50 : decode cX6_load 50 = .ok (.aload_n 2, 1) := by decide +kernel
theorem dX6_load_51 : decode cX6_load 51 = .ok (.iload 4, 2) := by decide +kernel
theorem dX6_load_53 : decode cX6_load 53 = .ok (.invokevirtual 296, 3) := by decide +kernel
theorem dX6_load_56 : decode cX6_load 56 = .ok (.istore 5, 2) := by decide +kernel
theorem dX6_load_58 : decode cX6_load 58 = .ok (.iload 5, 2) := by decide +kernel
theorem dX6_load_60 : decode cX6_load 60 = .ok (.iconst 0, 1) := by decide +kernel
theorem dX6_load_61 : decode cX6_load 61 = .ok (.bipush 99, 2) := by decide +kernel
theorem dX6_load_63 : decode cX6_load 63 = .ok (.invokestatic 44, 3) := by decide +kernel
theorem dX6_load_66 : decode cX6_load 66 = .ok (.ifCond .ne 5, 3) := by decide +kernel
theorem dX6_load_69 : decode cX6_load 69 = .ok (.iload_n 3, 1) := by decide +kernel
theorem dX6_load_70 : decode cX6_load 70 = .ok (.ireturn, 1) := by decide +kernel
theorem dX6_load_71 : decode cX6_load 71 = .ok (.aload_n 0, 1) := by decide +kernel
theorem dX6_load_72 : decode cX6_load 72 = .ok (.getfield 10, 3) := by decide +kernel
theorem dX6_load_75 : decode cX6_load 75 = .ok (.iload 4, 2) := by decide +kernel
theorem dX6_load_77 : decode cX6_load 77 = .ok (.iload 5, 2) := by decide +kernel
theorem dX6_load_79 : decode cX6_load 79 = .ok (.invokevirtual 88, 3) := by decide +kernel
theorem dX6_load_82 : decode cX6_load 82 = .ok (.iinc 3 1, 3) := by decide +kernel
theorem dX6_load_85 : decode cX6_load 85 = .ok (.iinc 4 1, 3) := by decide +kernel
theorem dX6_load_88 : decode cX6_load 88 = .ok (.goto (-54), 3) := by decide +kernel
theorem dX6_load_91 : decode cX6_load 91 = .ok (.iload_n 3, 1) := by decide +kernel
theorem dX6_load_92 : decode cX6_load 92 = .ok (.ireturn, 1) := by decide +kernel
set_option maxRecDepth 20000 in
theorem ggX6_judge_X6_sheetAt : GoodIn wsX6_judge wsX6_sheetAt := goodIn_r _ [6, 7, 53, 54, 55, 56, 57, 58, 59] (by decide +kernel) (by decide +kernel)
set_option maxRecDepth 20000 in
theorem gX6_judge_X6_sheetAt : GoodIn wsX6_judge (wsV RX6 221 RX6 yX6_sheetAt wsX6_sheetAt) := goodIn_app (goodIn_of _ (by decide +kernel)) ggX6_judge_X6_sheetAt
set_option maxRecDepth 20000 in
theorem ggX6_judge_X6_finding : GoodIn wsX6_judge wsX6_finding := goodIn_r _ [11, 12, 13, 14, 15, 5, 16, 17, 18, 19, 53, 54, 55, 56, 57, 58, 59] (by decide +kernel) (by decide +kernel)
set_option maxRecDepth 20000 in
theorem gX6_judge_X6_finding : GoodIn wsX6_judge (wsV RX6 48 RX6 yX6_finding wsX6_finding) := goodIn_app (goodIn_of _ (by decide +kernel)) ggX6_judge_X6_finding
set_option maxRecDepth 20000 in
theorem ggX6_judge_X4_isMissing : GoodIn wsX6_judge wsX4_isMissing := goodIn_r _ [24, 25, 60, 61, 62] (by decide +kernel) (by decide +kernel)
set_option maxRecDepth 20000 in
theorem gX6_judge_X4_isMissing : GoodIn wsX6_judge (wsV RX6 225 RX4 yX4_isMissing wsX4_isMissing) := goodIn_app (goodIn_of _ (by decide +kernel)) ggX6_judge_X4_isMissing
set_option maxRecDepth 20000 in
theorem ggX6_judge_X2_pathSet : GoodIn wsX6_judge wsX2_pathSet := goodIn_r _ [30, 31, 32, 5, 33, 63, 64, 65, 66, 67, 68, 69, 70] (by decide +kernel) (by decide +kernel)
set_option maxRecDepth 20000 in
theorem gX6_judge_X2_pathSet : GoodIn wsX6_judge (wsV RX6 72 RX2 yX2_pathSet wsX2_pathSet) := goodIn_app (goodIn_of _ (by decide +kernel)) ggX6_judge_X2_pathSet
set_option maxRecDepth 20000 in
theorem ggX6_judge_X4_numberAt : GoodIn wsX6_judge wsX4_numberAt := goodIn_r _ [37, 38, 15, 5, 16, 60, 61, 62] (by decide +kernel) (by decide +kernel)
set_option maxRecDepth 20000 in
theorem gX6_judge_X4_numberAt : GoodIn wsX6_judge (wsV RX6 296 RX4 yX4_numberAt wsX4_numberAt) := goodIn_app (goodIn_of _ (by decide +kernel)) ggX6_judge_X4_numberAt
set_option maxRecDepth 20000 in
theorem ggX6_judge_X6_isCell : GoodIn wsX6_judge wsX6_isCell := goodIn_r _ [41, 42, 43, 5, 44] (by decide +kernel) (by decide +kernel)
set_option maxRecDepth 20000 in
theorem gX6_judge_X6_isCell : GoodIn wsX6_judge (va_wsS RX6 40 yX6_isCell wsX6_isCell) := goodIn_app (goodIn_of _ (by decide +kernel)) ggX6_judge_X6_isCell
set_option maxRecDepth 20000 in
theorem ggX6_judge_X6_bit : GoodIn wsX6_judge wsX6_bit := goodIn_r _ [33] (by decide +kernel) (by decide +kernel)
set_option maxRecDepth 20000 in
theorem gX6_judge_X6_bit : GoodIn wsX6_judge (va_wsS RX6 62 yX6_bit wsX6_bit) := goodIn_app (goodIn_of _ (by decide +kernel)) ggX6_judge_X6_bit
set_option maxRecDepth 20000 in
theorem ggX6_judge_X0_neighbours : GoodIn wsX6_judge wsX0_neighbours := goodIn_r _ [49, 50, 51, 52] (by decide +kernel) (by decide +kernel)
set_option maxRecDepth 20000 in
theorem gX6_judge_X0_neighbours : GoodIn wsX6_judge (va_wsS RX6 66 yX0_neighbours wsX0_neighbours) := goodIn_app (goodIn_of _ (by decide +kernel)) ggX6_judge_X0_neighbours
theorem dX6_judge_0 : decode cX6_judge 0 = .ok (.aload_n 0, 1) := by decide +kernel
theorem dX6_judge_1 : decode cX6_judge 1 = .ok (.iload_n 1, 1) := by decide +kernel
theorem dX6_judge_2 : decode cX6_judge 2 = .ok (.invokevirtual 221, 3) := by decide +kernel
theorem dX6_judge_5 : decode cX6_judge 5 = .ok (.astore_n 2, 1) := by decide +kernel
theorem dX6_judge_6 : decode cX6_judge 6 = .ok (.aload_n 2, 1) := by decide +kernel
theorem dX6_judge_7 : decode cX6_judge 7 = .ok (.ifnonnull 9, 3) := by decide +kernel
theorem dX6_judge_10 : decode cX6_judge 10 = .ok (.aload_n 0, 1) := by decide +kernel
theorem dX6_judge_11 : decode cX6_judge 11 = .ok (.iconst 0, 1) := by decide +kernel
theorem dX6_judge_12 : decode cX6_judge 12 = .ok (.invokevirtual 48, 3) := by decide +kernel
theorem dX6_judge_15 : decode cX6_judge 15 = .ok (.ireturn, 1) := by decide +kernel
theorem dX6_judge_16 : decode cX6_judge 16 = .ok (.aload_n 2, 1) := by decide +kernel
theorem dX6_judge_17 : decode cX6_judge 17 = .ok (.invokevirtual 225, 3) := by decide +kernel
theorem dX6_judge_20 : decode cX6_judge 20 = .ok (.ifCond .eq 9, 3) := by decide +kernel
theorem dX6_judge_23 : decode cX6_judge 23 = .ok (.aload_n 0, 1) := by decide +kernel
theorem dX6_judge_24 : decode cX6_judge 24 = .ok (.iconst 5, 1) := by decide +kernel
theorem dX6_judge_25 : decode cX6_judge 25 = .ok (.invokevirtual 48, 3) := by decide +kernel
theorem dX6_judge_28 : decode cX6_judge 28 = .ok (.ireturn, 1) := by decide +kernel
theorem dX6_judge_29 : decode cX6_judge 29 = .ok (.aload_n 0, 1) := by decide +kernel
theorem dX6_judge_30 : decode cX6_judge 30 = .ok (.getfield 10, 3) := by decide +kernel
theorem dX6_judge_33 : decode cX6_judge 33 = .ok (.invokevirtual 72, 3) := by decide +kernel
theorem dX6_judge_36 : decode cX6_judge 36 = .ok (.lstore_n 3, 1) := by decide +kernel
theorem dX6_judge_37 : decode cX6_judge 37 = .ok (.lload_n 3, 1) := by decide +kernel
theorem dX6_judge_38 : decode cX6_judge 38 = .ok (.lstore 5, 2) := by decide +kernel
theorem dX6_judge_40 : decode cX6_judge 40 = .ok (.iconst 0, 1) := by decide +kernel
theorem dX6_judge_41 : decode cX6_judge 41 = .ok (.istore 7, 2) := by decide +kernel
theorem dX6_judge_43 : decode cX6_judge 43 = .ok (.iload 7, 2) := by decide +kernel
theorem dX6_judge_45 : decode cX6_judge 45 = .ok (.aload_n 2, 1) := by decide +kernel
theorem dX6_judge_46 : decode cX6_judge 46 = .ok (.getfield 280, 3) := by decide +kernel
theorem dX6_judge_49 : decode cX6_judge 49 = .ok (.if_icmp .ge 55, 3) := by decide +kernel
theorem dX6_judge_52 : decode cX6_judge 52 = .ok (.aload_n 2, 1) := by decide +kernel
theorem dX6_judge_53 : decode cX6_judge 53 = .ok (.iload 7, 2) := by decide +kernel
theorem dX6_judge_55 : decode cX6_judge 55 = .ok (.invokevirtual 296, 3) := by decide +kernel
theorem dX6_judge_58 : decode cX6_judge 58 = .ok (.istore 8, 2) := by decide +kernel
theorem dX6_judge_60 : decode cX6_judge 60 = .ok (.iload 8, 2) := by decide +kernel
theorem dX6_judge_62 : decode cX6_judge 62 = .ok (.invokestatic 40, 3) := by decide +kernel
theorem dX6_judge_65 : decode cX6_judge 65 = .ok (.ifCond .eq 16, 3) := by decide +kernel
theorem dX6_judge_68 : decode cX6_judge 68 = .ok (.lload 5, 2) := by decide +kernel
theorem dX6_judge_70 : decode cX6_judge 70 = .ok (.iload 8, 2) := by decide +kernel
theorem dX6_judge_72 : decode cX6_judge 72 = .ok (.invokestatic 62, 3) := by decide +kernel
theorem dX6_judge_75 : decode cX6_judge 75 = .ok (.land, 1) := by decide +kernel
theorem dX6_judge_76 : decode cX6_judge 76 = .ok (.lconst 0, 1) := by decide +kernel
theorem dX6_judge_77 : decode cX6_judge 77 = .ok (.lcmp, 1) := by decide +kernel
theorem dX6_judge_78 : decode cX6_judge 78 = .ok (.ifCond .ne 8, 3) := by decide +kernel
theorem dX6_judge_81 : decode cX6_judge 81 = .ok (.iconst 1, 1) := by decide +kernel
theorem dX6_judge_82 : decode cX6_judge 82 = .ok (.iload 7, 2) := by decide +kernel
theorem dX6_judge_84 : decode cX6_judge 84 = .ok (.iadd, 1) := by decide +kernel
theorem dX6_judge_85 : decode cX6_judge 85 = .ok (.ireturn, 1) := by decide +kernel
theorem dX6_judge_86 : decode cX6_judge 86 = .ok (.iload 8, 2) := by decide +kernel
theorem dX6_judge_88 : decode cX6_judge 88 = .ok (.invokestatic 62, 3) := by decide +kernel
theorem dX6_judge_91 : decode cX6_judge 91 = .ok (.invokestatic 66, 3) := by decide +kernel
theorem dX6_judge_94 : decode cX6_judge 94 = .ok (.lload_n 3, 1) := by decide +kernel
theorem dX6_judge_95 : decode cX6_judge 95 = .ok (.land, 1) := by decide +kernel
theorem dX6_judge_96 : decode cX6_judge 96 = .ok (.lstore 5, 2) := by decide +kernel
theorem dX6_judge_98 : decode cX6_judge 98 = .ok (.iinc 7 1, 3) := by decide +kernel
theorem dX6_judge_101 : decode cX6_judge 101 = .ok (.goto (-58), 3) := by decide +kernel
theorem dX6_judge_104 : decode cX6_judge 104 = .ok (.iconst 0, 1) := by decide +kernel
theorem dX6_judge_105 : decode cX6_judge 105 = .ok (.ireturn, 1) := by decide +kernel
set_option maxRecDepth 20000 in
theorem ggX6_image_X2_copyFrom : GoodIn wsX6_image wsX2_copyFrom := goodIn_r _ [8, 9, 10, 11, 12, 13, 14, 15, 16, 17, 18, 19, 20, 21, 22, 23, 24, 25, 26, 27, 28, 29, 7, 30, 31, 32, 33, 34, 35, 36, 37, 38, 39, 40, 48, 49, 50, 51, 52, 53, 54, 55, 56, 57, 58, 59] (by decide +kernel) (by decide +kernel)
set_option maxRecDepth 20000 in
theorem gX6_image_X2_copyFrom : GoodIn wsX6_image (wsV RX6 201 RX2 yX2_copyFrom wsX2_copyFrom) := goodIn_app (goodIn_of _ (by decide +kernel)) ggX6_image_X2_copyFrom
theorem dX6_image_0 : decode cX6_image 0 = .ok (.aload_n 0, 1) := by decide +kernel
theorem dX6_image_1 : decode cX6_image 1 = .ok (.getfield 19, 3) := by decide +kernel
theorem dX6_image_4 : decode cX6_image 4 = .ok (.aload_n 0, 1) := by decide +kernel
theorem dX6_image_5 : decode cX6_image 5 = .ok (.getfield 10, 3) := by decide +kernel
theorem dX6_image_8 : decode cX6_image 8 = .ok (.invokevirtual 201, 3) := by decide +kernel
theorem dX6_image_11 : decode cX6_image 11 = .ok (.aload_n 0, 1) := by decide +kernel
theorem dX6_image_12 : decode cX6_image 12 = .ok (.iconst 1, 1) := by decide +kernel
theorem dX6_image_13 : decode cX6_image 13 = .ok (.putfield 299, 3) := by decide +kernel
theorem dX6_image_16 : decode cX6_image 16 = .ok (.iconst 1, 1) := by decide +kernel
theorem dX6_image_17 : decode cX6_image 17 = .ok (.ireturn, 1) := by decide +kernel
set_option maxRecDepth 20000 in
theorem ggX6_undo_X6_finding : GoodIn wsX6_undo wsX6_finding := goodIn_r _ [8, 9, 10, 11, 12, 7, 13, 14, 15, 16, 53, 54, 55, 56, 57, 58, 59] (by decide +kernel) (by decide +kernel)
set_option maxRecDepth 20000 in
theorem gX6_undo_X6_finding : GoodIn wsX6_undo (wsV RX6 48 RX6 yX6_finding wsX6_finding) := goodIn_app (goodIn_of _ (by decide +kernel)) ggX6_undo_X6_finding
set_option maxRecDepth 20000 in
theorem ggX6_undo_X2_copyFrom : GoodIn wsX6_undo wsX2_copyFrom := goodIn_r _ [21, 22, 23, 24, 25, 26, 27, 28, 29, 7, 30, 31, 32, 33, 34, 35, 36, 37, 38, 39, 40, 41, 20, 42, 43, 44, 45, 46, 47, 48, 49, 50, 51, 52, 60, 61, 62, 63, 64, 65, 66, 67, 68, 69, 70, 71] (by decide +kernel) (by decide +kernel)
set_option maxRecDepth 20000 in
theorem gX6_undo_X2_copyFrom : GoodIn wsX6_undo (wsV RX6 201 RX2 yX2_copyFrom wsX2_copyFrom) := goodIn_app (goodIn_of _ (by decide +kernel)) ggX6_undo_X2_copyFrom
theorem dX6_undo_0 : decode cX6_undo 0 = .ok (.aload_n 0, 1) := by decide +kernel
theorem dX6_undo_1 : decode cX6_undo 1 = .ok (.getfield 299, 3) := by decide +kernel
theorem dX6_undo_4 : decode cX6_undo 4 = .ok (.ifCond .ne 9, 3) := by decide +kernel
theorem dX6_undo_7 : decode cX6_undo 7 = .ok (.aload_n 0, 1) := by decide +kernel
theorem dX6_undo_8 : decode cX6_undo 8 = .ok (.iconst 3, 1) := by decide +kernel
theorem dX6_undo_9 : decode cX6_undo 9 = .ok (.invokevirtual 48, 3) := by decide +kernel
theorem dX6_undo_12 : decode cX6_undo 12 = .ok (.ireturn, 1) := by decide +kernel
theorem dX6_undo_13 : decode cX6_undo 13 = .ok (.aload_n 0, 1) := by decide +kernel
theorem dX6_undo_14 : decode cX6_undo 14 = .ok (.getfield 10, 3) := by decide +kernel
theorem dX6_undo_17 : decode cX6_undo 17 = .ok (.aload_n 0, 1) := by decide +kernel
theorem dX6_undo_18 : decode cX6_undo 18 = .ok (.getfield 19, 3) := by decide +kernel
theorem dX6_undo_21 : decode cX6_undo 21 = .ok (.invokevirtual 201, 3) := by decide +kernel
theorem dX6_undo_24 : decode cX6_undo 24 = .ok (.aload_n 0, 1) := by decide +kernel
theorem dX6_undo_25 : decode cX6_undo 25 = .ok (.getfield 10, 3) := by decide +kernel
theorem dX6_undo_28 : decode cX6_undo 28 = .ok (.getfield 149, 3) := by decide +kernel
theorem dX6_undo_31 : decode cX6_undo 31 = .ok (.ireturn, 1) := by decide +kernel
theorem dX6_tear_0 : decode cX6_tear 0 = .ok (.aload_n 0, 1) := by decide +kernel
theorem dX6_tear_1 : decode cX6_tear 1 = .ok (.getfield 299, 3) := by decide +kernel
theorem dX6_tear_4 : decode cX6_tear 4 = .ok (.ifCond .eq 7, 3) := by decide +kernel
theorem dX6_tear_7 : decode cX6_tear 7 = .ok (.iconst 1, 1) := by decide +kernel
theorem dX6_tear_8 : decode cX6_tear 8 = .ok (.goto 4, 3) := by decide +kernel
theorem dX6_tear_11 : decode cX6_tear 11 = .ok (.iconst 0, 1) := by decide +kernel
theorem dX6_tear_12 : decode cX6_tear 12 = .ok (.istore_n 1, 1) := by decide +kernel
theorem dX6_tear_13 : decode cX6_tear 13 = .ok (.aload_n 0, 1) := by decide +kernel
theorem dX6_tear_14 : decode cX6_tear 14 = .ok (.iconst 0, 1) := by decide +kernel
theorem dX6_tear_15 : decode cX6_tear 15 = .ok (.putfield 299, 3) := by decide +kernel
theorem dX6_tear_18 : decode cX6_tear 18 = .ok (.iload_n 1, 1) := by decide +kernel
theorem dX6_tear_19 : decode cX6_tear 19 = .ok (.ireturn, 1) := by decide +kernel
set_option maxRecDepth 20000 in
theorem ggX6_count_X2_aliveSet : GoodIn wsX6_count wsX2_aliveSet := goodIn_r _ [7, 8, 9, 10, 11, 6, 12, 13, 14, 15, 16, 17, 18, 19, 20, 21, 22, 23, 24, 25, 26, 27, 28, 92, 93, 94, 95, 96, 97, 98, 99, 106, 107, 108, 109] (by decide +kernel) (by decide +kernel)
set_option maxRecDepth 20000 in
theorem gX6_count_X2_aliveSet : GoodIn wsX6_count (wsV RX6 160 RX2 yX2_aliveSet wsX2_aliveSet) := goodIn_app (goodIn_of _ (by decide +kernel)) ggX6_count_X2_aliveSet
set_option maxRecDepth 20000 in
theorem ggX6_count_J6_bitCount_0f7a4 : GoodIn wsX6_count wsJ6_bitCount_0f7a4 := goodIn_r _ [32, 33, 34, 35] (by decide +kernel) (by decide +kernel)
set_option maxRecDepth 20000 in
theorem gX6_count_J6_bitCount_0f7a4 : GoodIn wsX6_count (va_wsS RX6 303 yJ6_bitCount_0f7a4 wsJ6_bitCount_0f7a4) := goodIn_app (goodIn_of _ (by decide +kernel)) ggX6_count_J6_bitCount_0f7a4
set_option maxRecDepth 20000 in
theorem ggX6_count_X2_pathCells : GoodIn wsX6_count wsX2_pathCells := goodIn_r _ [39, 40, 41, 42, 6, 43, 44, 45, 46, 47, 48, 49, 50, 51, 52, 53, 54, 92, 93, 94, 95, 96, 97, 98, 99] (by decide +kernel) (by decide +kernel)
set_option maxRecDepth 20000 in
theorem gX6_count_X2_pathCells : GoodIn wsX6_count (wsV RX6 157 RX2 yX2_pathCells wsX2_pathCells) := goodIn_app (goodIn_of _ (by decide +kernel)) ggX6_count_X2_pathCells
set_option maxRecDepth 20000 in
theorem ggX6_count_X2_pathSet : GoodIn wsX6_count wsX2_pathSet := goodIn_r _ [43, 44, 45, 46, 47, 92, 93, 94, 95, 96, 97, 98, 99] (by decide +kernel) (by decide +kernel)
set_option maxRecDepth 20000 in
theorem gX6_count_X2_pathSet : GoodIn wsX6_count (wsV RX6 72 RX2 yX2_pathSet wsX2_pathSet) := goodIn_app (goodIn_of _ (by decide +kernel)) ggX6_count_X2_pathSet
set_option maxRecDepth 20000 in
theorem ggX6_count_X0_benches : GoodIn wsX6_count wsX0_benches := goodIn_r _ [59, 45, 46, 47, 60, 61, 58, 62, 63, 64, 65, 66, 49, 50, 51, 52, 53, 54] (by decide +kernel) (by decide +kernel)
set_option maxRecDepth 20000 in
theorem gX6_count_X0_benches : GoodIn wsX6_count (va_wsS RX6 166 yX0_benches wsX0_benches) := goodIn_app (goodIn_of _ (by decide +kernel)) ggX6_count_X0_benches
set_option maxRecDepth 20000 in
theorem ggX6_count_J13_bitCount_95d88 : GoodIn wsX6_count wsJ13_bitCount_95d88 := goodIn_r _ [51, 52, 53, 54] (by decide +kernel) (by decide +kernel)
set_option maxRecDepth 20000 in
theorem gX6_count_J13_bitCount_95d88 : GoodIn wsX6_count (va_wsS RX6 76 yJ13_bitCount_95d88 wsJ13_bitCount_95d88) := goodIn_app (goodIn_of _ (by decide +kernel)) ggX6_count_J13_bitCount_95d88
set_option maxRecDepth 20000 in
theorem ggX6_count_X2_spotsHeld : GoodIn wsX6_count wsX2_spotsHeld := goodIn_r _ [71, 72, 92, 93, 94, 95, 96, 97, 98, 99] (by decide +kernel) (by decide +kernel)
set_option maxRecDepth 20000 in
theorem gX6_count_X2_spotsHeld : GoodIn wsX6_count (wsV RX6 307 RX2 yX2_spotsHeld wsX2_spotsHeld) := goodIn_app (goodIn_of _ (by decide +kernel)) ggX6_count_X2_spotsHeld
set_option maxRecDepth 20000 in
theorem ggX6_count_X6_finding : GoodIn wsX6_count wsX6_finding := goodIn_r _ [76, 77, 78, 79, 80, 46, 81, 82, 83, 84, 85, 86, 87, 88, 89, 90, 91] (by decide +kernel) (by decide +kernel)
set_option maxRecDepth 20000 in
theorem gX6_count_X6_finding : GoodIn wsX6_count (wsV RX6 48 RX6 yX6_finding wsX6_finding) := goodIn_app (goodIn_of _ (by decide +kernel)) ggX6_count_X6_finding
theorem dX6_count_0 : decode cX6_count 0 = .ok (.iload_n 1, 1) := by decide +kernel
theorem dX6_count_1 : decode cX6_count 1 = .ok (.tableswitch 120 0 7 #[47, 55, 63, 74, 82, 96, 104, 112], 47) := by decide +kernel
theorem dX6_count_48 : decode cX6_count 48 = .ok (.aload_n 0, 1) := by decide +kernel
theorem dX6_count_49 : decode cX6_count 49 = .ok (.getfield 10, 3) := by decide +kernel
theorem dX6_count_52 : decode cX6_count 52 = .ok (.getfield 149, 3) := by decide +kernel
theorem dX6_count_55 : decode cX6_count 55 = .ok (.ireturn, 1) := by decide +kernel
theorem dX6_count_56 : decode cX6_count 56 = .ok (.aload_n 0, 1) := by decide +kernel
theorem dX6_count_57 : decode cX6_count 57 = .ok (.getfield 10, 3) := by decide +kernel
theorem dX6_count_60 : decode cX6_count 60 = .ok (.getfield 212, 3) := by decide +kernel
theorem dX6_count_63 : decode cX6_count 63 = .ok (.ireturn, 1) := by decide +kernel
theorem dX6_count_64 : decode cX6_count 64 = .ok (.aload_n 0, 1) := by decide +kernel
theorem dX6_count_65 : decode cX6_count 65 = .ok (.getfield 10, 3) := by decide +kernel
theorem dX6_count_68 : decode cX6_count 68 = .ok (.invokevirtual 160, 3) := by decide +kernel
theorem dX6_count_71 : decode cX6_count 71 = .ok (.invokestatic 303, 3) := by decide +kernel
theorem dX6_count_74 : decode cX6_count 74 = .ok (.ireturn, 1) := by decide +kernel
theorem dX6_count_75 : decode cX6_count 75 = .ok (.aload_n 0, 1) := by decide +kernel
theorem dX6_count_76 : decode cX6_count 76 = .ok (.getfield 10, 3) := by decide +kernel
theorem dX6_count_79 : decode cX6_count 79 = .ok (.invokevirtual 157, 3) := by decide +kernel
theorem dX6_count_82 : decode cX6_count 82 = .ok (.ireturn, 1) := by decide +kernel
theorem dX6_count_83 : decode cX6_count 83 = .ok (.aload_n 0, 1) := by decide +kernel
theorem dX6_count_84 : decode cX6_count 84 = .ok (.getfield 10, 3) := by decide +kernel
theorem dX6_count_87 : decode cX6_count 87 = .ok (.invokevirtual 72, 3) := by decide +kernel
theorem dX6_count_90 : decode cX6_count 90 = .ok (.invokestatic 166, 3) := by decide +kernel
theorem dX6_count_93 : decode cX6_count 93 = .ok (.invokestatic 76, 3) := by decide +kernel
theorem dX6_count_96 : decode cX6_count 96 = .ok (.ireturn, 1) := by decide +kernel
theorem dX6_count_97 : decode cX6_count 97 = .ok (.aload_n 0, 1) := by decide +kernel
theorem dX6_count_98 : decode cX6_count 98 = .ok (.getfield 25, 3) := by decide +kernel
theorem dX6_count_101 : decode cX6_count 101 = .ok (.getfield 245, 3) := by decide +kernel
theorem dX6_count_104 : decode cX6_count 104 = .ok (.ireturn, 1) := by decide +kernel
theorem dX6_count_105 : decode cX6_count 105 = .ok (.aload_n 0, 1) := by decide +kernel
theorem dX6_count_106 : decode cX6_count 106 = .ok (.getfield 10, 3) := by decide +kernel
theorem dX6_count_109 : decode cX6_count 109 = .ok (.getfield 242, 3) := by decide +kernel
theorem dX6_count_112 : decode cX6_count 112 = .ok (.ireturn, 1) := by decide +kernel
theorem dX6_count_113 : decode cX6_count 113 = .ok (.aload_n 0, 1) := by decide +kernel
theorem dX6_count_114 : decode cX6_count 114 = .ok (.getfield 10, 3) := by decide +kernel
theorem dX6_count_117 : decode cX6_count 117 = .ok (.invokevirtual 307, 3) := by decide +kernel
theorem dX6_count_120 : decode cX6_count 120 = .ok (.ireturn, 1) := by decide +kernel
theorem dX6_count_121 : decode cX6_count 121 = .ok (.aload_n 0, 1) := by decide +kernel
theorem dX6_count_122 : decode cX6_count 122 = .ok (.iconst 0, 1) := by decide +kernel
theorem dX6_count_123 : decode cX6_count 123 = .ok (.invokevirtual 48, 3) := by decide +kernel
theorem dX6_count_126 : decode cX6_count 126 = .ok (.ireturn, 1) := by decide +kernel
set_option maxRecDepth 20000 in
theorem ggX6_status_X6_within : GoodIn wsX6_status wsX6_within := goodIn_r _ [5] (by decide +kernel) (by decide +kernel)
set_option maxRecDepth 20000 in
theorem gX6_status_X6_within : GoodIn wsX6_status (va_wsS RX6 44 yX6_within wsX6_within) := goodIn_app (goodIn_of _ (by decide +kernel)) ggX6_status_X6_within
set_option maxRecDepth 20000 in
theorem ggX6_status_X6_finding : GoodIn wsX6_status wsX6_finding := goodIn_r _ [9, 1, 10, 11, 12, 4, 13, 14, 15, 16, 17, 18, 19, 20, 21, 22, 23] (by decide +kernel) (by decide +kernel)
set_option maxRecDepth 20000 in
theorem gX6_status_X6_finding : GoodIn wsX6_status (wsV RX6 48 RX6 yX6_finding wsX6_finding) := goodIn_app (goodIn_of _ (by decide +kernel)) ggX6_status_X6_finding
set_option maxRecDepth 20000 in
theorem ggX6_status_X6_at : GoodIn wsX6_status wsX6_at := goodIn_r _ [13] (by decide +kernel) (by decide +kernel)
set_option maxRecDepth 20000 in
theorem gX6_status_X6_at : GoodIn wsX6_status (va_wsS RX6 267 yX6_at wsX6_at) := goodIn_app (goodIn_of _ (by decide +kernel)) ggX6_status_X6_at
theorem dX6_status_0 : decode cX6_status 0 = .ok (.iload_n 1, 1) := by decide +kernel
theorem dX6_status_1 : decode cX6_status 1 = .ok (.iconst (-1), 1) := by decide +kernel
theorem dX6_status_2 : decode cX6_status 2 = .ok (.bipush 6, 2) := by decide +kernel
theorem dX6_status_4 : decode cX6_status 4 = .ok (.invokestatic 44, 3) := by decide +kernel
theorem dX6_status_7 : decode cX6_status 7 = .ok (.ifCond .ne 9, 3) := by decide +kernel
theorem dX6_status_10 : decode cX6_status 10 = .ok (.aload_n 0, 1) := by decide +kernel
theorem dX6_status_11 : decode cX6_status 11 = .ok (.iconst 0, 1) := by decide +kernel
theorem dX6_status_12 : decode cX6_status 12 = .ok (.invokevirtual 48, 3) := by decide +kernel
theorem dX6_status_15 : decode cX6_status 15 = .ok (.ireturn, 1) := by decide +kernel
theorem dX6_status_16 : decode cX6_status 16 = .ok (.iload_n 1, 1) := by decide +kernel
theorem dX6_status_17 : decode cX6_status 17 = .ok (.ifCond .lt 12, 3) := by decide +kernel
theorem dX6_status_20 : decode cX6_status 20 = .ok (.aload_n 0, 1) := by decide +kernel
theorem dX6_status_21 : decode cX6_status 21 = .ok (.getfield 29, 3) := by decide +kernel
theorem dX6_status_24 : decode cX6_status 24 = .ok (.iload_n 1, 1) := by decide +kernel
theorem dX6_status_25 : decode cX6_status 25 = .ok (.invokestatic 267, 3) := by decide +kernel
theorem dX6_status_28 : decode cX6_status 28 = .ok (.ireturn, 1) := by decide +kernel
theorem dX6_status_29 : decode cX6_status 29 = .ok (.iconst 0, 1) := by decide +kernel
theorem dX6_status_30 : decode cX6_status 30 = .ok (.istore_n 2, 1) := by decide +kernel
theorem dX6_status_31 : decode cX6_status 31 = .ok (.iconst 0, 1) := by decide +kernel
theorem dX6_status_32 : decode cX6_status 32 = .ok (.istore_n 3, 1) := by decide +kernel
theorem dX6_status_33 : decode cX6_status 33 = .ok (.iload_n 3, 1) := by decide +kernel
theorem dX6_status_34 : decode cX6_status 34 = .ok (.aload_n 0, 1) := by decide +kernel
theorem dX6_status_35 : decode cX6_status 35 = .ok (.getfield 29, 3) := by decide +kernel
theorem dX6_status_38 : decode cX6_status 38 = .ok (.arraylength, 1) := by decide +kernel
theorem dX6_status_39 : decode cX6_status 39 = .ok (.if_icmp .ge 18, 3) := by decide +kernel
theorem dX6_status_42 : decode cX6_status 42 = .ok (.iload_n 2, 1) := by decide +kernel
theorem dX6_status_43 : decode cX6_status 43 = .ok (.aload_n 0, 1) := by decide +kernel
theorem dX6_status_44 : decode cX6_status 44 = .ok (.getfield 29, 3) := by decide +kernel
theorem dX6_status_47 : decode cX6_status 47 = .ok (.iload_n 3, 1) := by decide +kernel
theorem dX6_status_48 : decode cX6_status 48 = .ok (.iaload, 1) := by decide +kernel
theorem dX6_status_49 : decode cX6_status 49 = .ok (.iadd, 1) := by decide +kernel
theorem dX6_status_50 : decode cX6_status 50 = .ok (.istore_n 2, 1) := by decide +kernel
theorem dX6_status_51 : decode cX6_status 51 = .ok (.iinc 3 1, 3) := by decide +kernel
theorem dX6_status_54 : decode cX6_status 54 = .ok (.goto (-21), 3) := by decide +kernel
theorem dX6_status_57 : decode cX6_status 57 = .ok (.iload_n 2, 1) := by decide +kernel
theorem dX6_status_58 : decode cX6_status 58 = .ok (.ireturn, 1) := by decide +kernel
set_option maxRecDepth 20000 in
theorem ggX6_finding_X6_at : GoodIn wsX6_finding wsX6_at := goodIn_r _ [6] (by decide +kernel) (by decide +kernel)
set_option maxRecDepth 20000 in
theorem gX6_finding_X6_at : GoodIn wsX6_finding (va_wsS RX6 267 yX6_at wsX6_at) := goodIn_app (goodIn_of _ (by decide +kernel)) ggX6_finding_X6_at
set_option maxRecDepth 20000 in
theorem ggX6_finding_X6_put : GoodIn wsX6_finding wsX6_put := goodIn_r _ [9] (by decide +kernel) (by decide +kernel)
set_option maxRecDepth 20000 in
theorem gX6_finding_X6_put : GoodIn wsX6_finding (va_wsS RX6 263 yX6_put wsX6_put) := goodIn_app (goodIn_of _ (by decide +kernel)) ggX6_finding_X6_put
theorem dX6_finding_0 : decode cX6_finding 0 = .ok (.aload_n 0, 1) := by decide +kernel
theorem dX6_finding_1 : decode cX6_finding 1 = .ok (.getfield 29, 3) := by decide +kernel
theorem dX6_finding_4 : decode cX6_finding 4 = .ok (.iload_n 1, 1) := by decide +kernel
theorem dX6_finding_5 : decode cX6_finding 5 = .ok (.aload_n 0, 1) := by decide +kernel
theorem dX6_finding_6 : decode cX6_finding 6 = .ok (.getfield 29, 3) := by decide +kernel
theorem dX6_finding_9 : decode cX6_finding 9 = .ok (.iload_n 1, 1) := by decide +kernel
theorem dX6_finding_10 : decode cX6_finding 10 = .ok (.invokestatic 267, 3) := by decide +kernel
theorem dX6_finding_13 : decode cX6_finding 13 = .ok (.iconst 1, 1) := by decide +kernel
theorem dX6_finding_14 : decode cX6_finding 14 = .ok (.iadd, 1) := by decide +kernel
theorem dX6_finding_15 : decode cX6_finding 15 = .ok (.invokestatic 263, 3) := by decide +kernel
theorem dX6_finding_18 : decode cX6_finding 18 = .ok (.ldc_w 310, 3) := by decide +kernel
theorem dX6_finding_21 : decode cX6_finding 21 = .ok (.iload_n 1, 1) := by decide +kernel
theorem dX6_finding_22 : decode cX6_finding 22 = .ok (.isub, 1) := by decide +kernel
theorem dX6_finding_23 : decode cX6_finding 23 = .ok (.ireturn, 1) := by decide +kernel
theorem dX6_sheetAt_0 : decode cX6_sheetAt 0 = .ok (.iload_n 1, 1) := by decide +kernel
theorem dX6_sheetAt_1 : decode cX6_sheetAt 1 = .ok (.ifCond .lt 21, 3) := by decide +kernel
theorem dX6_sheetAt_4 : decode cX6_sheetAt 4 = .ok (.iload_n 1, 1) := by decide +kernel
theorem dX6_sheetAt_5 : decode cX6_sheetAt 5 = .ok (.aload_n 0, 1) := by decide +kernel
theorem dX6_sheetAt_6 : decode cX6_sheetAt 6 = .ok (.getfield 35, 3) := by decide +kernel
theorem dX6_sheetAt_9 : decode cX6_sheetAt 9 = .ok (.arraylength, 1) := by decide +kernel
theorem dX6_sheetAt_10 : decode cX6_sheetAt 10 = .ok (.if_icmp .ge 12, 3) := by decide +kernel
theorem dX6_sheetAt_13 : decode cX6_sheetAt 13 = .ok (.aload_n 0, 1) := by decide +kernel
theorem dX6_sheetAt_14 : decode cX6_sheetAt 14 = .ok (.getfield 35, 3) := by decide +kernel
theorem dX6_sheetAt_17 : decode cX6_sheetAt 17 = .ok (.iload_n 1, 1) := by decide +kernel
theorem dX6_sheetAt_18 : decode cX6_sheetAt 18 = .ok (.aaload, 1) := by decide +kernel
theorem dX6_sheetAt_19 : decode cX6_sheetAt 19 = .ok (.goto 4, 3) := by decide +kernel
theorem dX6_sheetAt_22 : decode cX6_sheetAt 22 = .ok (.aconst_null, 1) := by decide +kernel
theorem dX6_sheetAt_23 : decode cX6_sheetAt 23 = .ok (.areturn, 1) := by decide +kernel
set_option maxRecDepth 20000 in
theorem ggX6_mostPath_X2_copyWith : GoodIn wsX6_mostPath wsX2_copyWith := goodIn_r _ [7, 8, 9, 10, 6, 11, 12, 13, 14, 15, 16, 17, 18, 19, 20, 21, 22, 23, 24, 25, 26, 27, 28, 29, 30, 31, 32, 33, 34, 35, 36, 37, 38, 39, 40, 41, 42, 43, 44, 45, 46, 47, 48, 49, 50, 51, 148, 149, 150, 151, 152, 153, 154, 155, 156, 157, 158, 159] (by decide +kernel) (by decide +kernel)
set_option maxRecDepth 20000 in
theorem gX6_mostPath_X2_copyWith : GoodIn wsX6_mostPath (wsV RX6 215 RX2 yX2_copyWith wsX2_copyWith) := goodIn_app (goodIn_of _ (by decide +kernel)) ggX6_mostPath_X2_copyWith
set_option maxRecDepth 20000 in
theorem ggX6_mostPath_X2_pass : GoodIn wsX6_mostPath wsX2_pass := goodIn_r _ [55, 12, 56, 57, 24, 58, 16, 17, 59, 60, 23, 25, 44, 45, 46, 6, 47, 30, 31, 32, 33, 34, 61, 62, 63, 38, 64, 43, 65, 66, 67, 68, 40, 69, 70, 71, 72, 73, 74, 75, 76, 77, 78, 79, 80, 81, 82, 83, 84, 14, 85, 20, 86, 87, 88, 89, 90, 91, 92, 93, 94, 95, 96, 97, 98, 99, 100, 101, 102, 103, 104, 105, 106, 107, 108, 15, 109, 110, 111, 112, 113, 114, 115, 116, 117, 118, 119, 120, 121, 122, 123, 124, 125, 148, 149, 150, 151, 152, 153, 154, 155, 156, 157, 158, 159] (by decide +kernel) (by decide +kernel)
set_option maxRecDepth 20000 in
theorem gX6_mostPath_X2_pass : GoodIn wsX6_mostPath (wsV RX6 153 RX2 yX2_pass wsX2_pass) := goodIn_app (goodIn_of _ (by decide +kernel)) ggX6_mostPath_X2_pass
set_option maxRecDepth 20000 in
theorem ggX6_mostPath_X2_pathCells : GoodIn wsX6_mostPath wsX2_pathCells := goodIn_r _ [129, 130, 131, 132, 6, 133, 12, 85, 20, 86, 134, 135, 136, 137, 138, 139, 140, 148, 149, 150, 151, 152, 153, 154, 155] (by decide +kernel) (by decide +kernel)
set_option maxRecDepth 20000 in
theorem gX6_mostPath_X2_pathCells : GoodIn wsX6_mostPath (wsV RX6 157 RX2 yX2_pathCells wsX2_pathCells) := goodIn_app (goodIn_of _ (by decide +kernel)) ggX6_mostPath_X2_pathCells
theorem dX6_mostPath_0 : decode cX6_mostPath 0 = .ok (.iconst 0, 1) := by decide +kernel
theorem dX6_mostPath_1 : decode cX6_mostPath 1 = .ok (.istore 5, 2) := by decide +kernel
theorem dX6_mostPath_3 : decode cX6_mostPath 3 = .ok (.iconst (-1), 1) := by decide +kernel
theorem dX6_mostPath_4 : decode cX6_mostPath 4 = .ok (.istore 6, 2) := by decide +kernel
theorem dX6_mostPath_6 : decode cX6_mostPath 6 = .ok (.iconst 0, 1) := by decide +kernel
theorem dX6_mostPath_7 : decode cX6_mostPath 7 = .ok (.istore 7, 2) := by decide +kernel
theorem dX6_mostPath_9 : decode cX6_mostPath 9 = .ok (.iload 7, 2) := by decide +kernel
theorem dX6_mostPath_11 : decode cX6_mostPath 11 = .ok (.iload_n 3, 1) := by decide +kernel
theorem dX6_mostPath_12 : decode cX6_mostPath 12 = .ok (.if_icmp .ge 57, 3) := by decide +kernel
theorem dX6_mostPath_15 : decode cX6_mostPath 15 = .ok (.aload_n 0, 1) := by decide +kernel
theorem dX6_mostPath_16 : decode cX6_mostPath 16 = .ok (.getfield 16, 3) := by decide +kernel
theorem dX6_mostPath_19 : decode cX6_mostPath 19 = .ok (.aload_n 0, 1) := by decide +kernel
theorem dX6_mostPath_20 : decode cX6_mostPath 20 = .ok (.getfield 10, 3) := by decide +kernel
theorem dX6_mostPath_23 : decode cX6_mostPath 23 = .ok (.iload_n 1, 1) := by decide +kernel
theorem dX6_mostPath_24 : decode cX6_mostPath 24 = .ok (.iload_n 2, 1) := by decide +kernel
theorem dX6_mostPath_25 : decode cX6_mostPath 25 = .ok (.iload 7, 2) := by decide +kernel
theorem dX6_mostPath_27 : decode cX6_mostPath 27 = .ok (.invokevirtual 215, 3) := by decide +kernel
theorem dX6_mostPath_30 : decode cX6_mostPath 30 = .ok (.aload_n 0, 1) := by decide +kernel
theorem dX6_mostPath_31 : decode cX6_mostPath 31 = .ok (.getfield 16, 3) := by decide +kernel
theorem dX6_mostPath_34 : decode cX6_mostPath 34 = .ok (.iload 4, 2) := by decide +kernel
theorem dX6_mostPath_36 : decode cX6_mostPath 36 = .ok (.invokevirtual 153, 3) := by decide +kernel
theorem dX6_mostPath_39 : decode cX6_mostPath 39 = .ok (.aload_n 0, 1) := by decide +kernel
theorem dX6_mostPath_40 : decode cX6_mostPath 40 = .ok (.getfield 16, 3) := by decide +kernel
theorem dX6_mostPath_43 : decode cX6_mostPath 43 = .ok (.invokevirtual 157, 3) := by decide +kernel
theorem dX6_mostPath_46 : decode cX6_mostPath 46 = .ok (.istore 8, 2) := by decide +kernel
theorem dX6_mostPath_48 : decode cX6_mostPath 48 = .ok (.iload 8, 2) := by decide +kernel
theorem dX6_mostPath_50 : decode cX6_mostPath 50 = .ok (.iload 6, 2) := by decide +kernel
theorem dX6_mostPath_52 : decode cX6_mostPath 52 = .ok (.if_icmp .le 11, 3) := by decide +kernel
theorem dX6_mostPath_55 : decode cX6_mostPath 55 = .ok (.iload 8, 2) := by decide +kernel
theorem dX6_mostPath_57 : decode cX6_mostPath 57 = .ok (.istore 6, 2) := by decide +kernel
theorem dX6_mostPath_59 : decode cX6_mostPath 59 = .ok (.iload 7, 2) := by decide +kernel
theorem dX6_mostPath_61 : decode cX6_mostPath 61 = .ok (.istore 5, 2) := by decide +kernel
theorem dX6_mostPath_63 : decode cX6_mostPath 63 = .ok (.iinc 7 1, 3) := by decide +kernel
theorem dX6_mostPath_66 : decode cX6_mostPath 66 = .ok (.goto (-57), 3) := by decide +kernel
theorem dX6_mostPath_69 : decode cX6_mostPath 69 = .ok (.iload 5, 2) := by decide +kernel
theorem dX6_mostPath_71 : decode cX6_mostPath 71 = .ok (.ireturn, 1) := by decide +kernel
set_option maxRecDepth 20000 in
theorem ggX6_trialGoesAsTold_X2_pass : GoodIn wsX6_trialGoesAsTold wsX2_pass := goodIn_r _ [6, 7, 8, 9, 10, 11, 12, 13, 14, 15, 16, 17, 18, 19, 20, 5, 21, 22, 23, 24, 25, 26, 27, 28, 29, 30, 31, 32, 33, 34, 35, 36, 37, 38, 39, 40, 41, 42, 43, 44, 45, 46, 47, 48, 49, 50, 51, 52, 53, 54, 55, 56, 57, 58, 59, 60, 61, 62, 63, 64, 65, 66, 67, 68, 69, 70, 71, 72, 73, 74, 75, 76, 77, 78, 79, 80, 81, 82, 83, 84, 85, 86, 87, 88, 89, 90, 91, 92, 93, 94, 95, 96, 97, 115, 116, 117, 118, 119, 120, 121, 122, 123, 124, 125, 126] (by decide +kernel) (by decide +kernel)
set_option maxRecDepth 20000 in
theorem gX6_trialGoesAsTold_X2_pass : GoodIn wsX6_trialGoesAsTold (wsV RX6 153 RX2 yX2_pass wsX2_pass) := goodIn_app (goodIn_of _ (by decide +kernel)) ggX6_trialGoesAsTold_X2_pass
set_option maxRecDepth 20000 in
theorem ggX6_trialGoesAsTold_X4_numberAt : GoodIn wsX6_trialGoesAsTold wsX4_numberAt := goodIn_r _ [102, 103, 86, 56, 87, 105, 106, 107] (by decide +kernel) (by decide +kernel)
set_option maxRecDepth 20000 in
theorem gX6_trialGoesAsTold_X4_numberAt : GoodIn wsX6_trialGoesAsTold (wsV RX6 296 RX4 yX4_numberAt wsX4_numberAt) := goodIn_app (goodIn_of _ (by decide +kernel)) ggX6_trialGoesAsTold_X4_numberAt
set_option maxRecDepth 20000 in
theorem ggX6_trialGoesAsTold_X2_pathOf : GoodIn wsX6_trialGoesAsTold wsX2_pathOf := goodIn_r _ [85, 7, 86, 56, 87, 115, 116, 117, 118, 119, 120, 121, 122] (by decide +kernel) (by decide +kernel)
set_option maxRecDepth 20000 in
theorem gX6_trialGoesAsTold_X2_pathOf : GoodIn wsX6_trialGoesAsTold (wsV RX6 59 RX2 yX2_pathOf wsX2_pathOf) := goodIn_app (goodIn_of _ (by decide +kernel)) ggX6_trialGoesAsTold_X2_pathOf
theorem dX6_trialGoesAsTold_0 : decode cX6_trialGoesAsTold 0 = .ok (.iconst 0, 1) := by decide +kernel
theorem dX6_trialGoesAsTold_1 : decode cX6_trialGoesAsTold 1 = .ok (.istore_n 3, 1) := by decide +kernel
theorem dX6_trialGoesAsTold_2 : decode cX6_trialGoesAsTold 2 = .ok (.iload_n 3, 1) := by decide +kernel
theorem dX6_trialGoesAsTold_3 : decode cX6_trialGoesAsTold 3 = .ok (.aload_n 1, 1) := by decide +kernel
theorem dX6_trialGoesAsTold_4 : decode cX6_trialGoesAsTold 4 = .ok (.getfield 280, 3) := by decide +kernel
theorem dX6_trialGoesAsTold_7 : decode cX6_trialGoesAsTold 7 = .ok (.if_icmp .ge 49, 3) := by decide +kernel
theorem dX6_trialGoesAsTold_10 : decode cX6_trialGoesAsTold 10 = .ok (.iload_n 3, 1) := by decide +kernel
theorem dX6_trialGoesAsTold_11 : decode cX6_trialGoesAsTold 11 = .ok (.ifCond .le 11, 3) := by decide +kernel
theorem dX6_trialGoesAsTold_14 : decode cX6_trialGoesAsTold 14 = .ok (.aload_n 0, 1) := by decide +kernel
theorem dX6_trialGoesAsTold_15 : decode cX6_trialGoesAsTold 15 = .ok (.getfield 16, 3) := by decide +kernel
theorem dX6_trialGoesAsTold_18 : decode cX6_trialGoesAsTold 18 = .ok (.iconst 1, 1) := by decide +kernel
theorem dX6_trialGoesAsTold_19 : decode cX6_trialGoesAsTold 19 = .ok (.invokevirtual 153, 3) := by decide +kernel
theorem dX6_trialGoesAsTold_22 : decode cX6_trialGoesAsTold 22 = .ok (.aload_n 1, 1) := by decide +kernel
theorem dX6_trialGoesAsTold_23 : decode cX6_trialGoesAsTold 23 = .ok (.iload_n 3, 1) := by decide +kernel
theorem dX6_trialGoesAsTold_24 : decode cX6_trialGoesAsTold 24 = .ok (.invokevirtual 296, 3) := by decide +kernel
theorem dX6_trialGoesAsTold_27 : decode cX6_trialGoesAsTold 27 = .ok (.istore 4, 2) := by decide +kernel
theorem dX6_trialGoesAsTold_29 : decode cX6_trialGoesAsTold 29 = .ok (.iload 4, 2) := by decide +kernel
theorem dX6_trialGoesAsTold_31 : decode cX6_trialGoesAsTold 31 = .ok (.iconst (-1), 1) := by decide +kernel
theorem dX6_trialGoesAsTold_32 : decode cX6_trialGoesAsTold 32 = .ok (.if_icmp .eq 18, 3) := by decide +kernel
theorem dX6_trialGoesAsTold_35 : decode cX6_trialGoesAsTold 35 = .ok (.iload 4, 2) := by decide +kernel
theorem dX6_trialGoesAsTold_37 : decode cX6_trialGoesAsTold 37 = .ok (.aload_n 0, 1) := by decide +kernel
theorem dX6_trialGoesAsTold_38 : decode cX6_trialGoesAsTold 38 = .ok (.getfield 16, 3) := by decide +kernel
theorem dX6_trialGoesAsTold_41 : decode cX6_trialGoesAsTold 41 = .ok (.iload_n 2, 1) := by decide +kernel
theorem dX6_trialGoesAsTold_42 : decode cX6_trialGoesAsTold 42 = .ok (.invokevirtual 59, 3) := by decide +kernel
theorem dX6_trialGoesAsTold_45 : decode cX6_trialGoesAsTold 45 = .ok (.if_icmp .eq 5, 3) := by decide +kernel
theorem dX6_trialGoesAsTold_48 : decode cX6_trialGoesAsTold 48 = .ok (.iconst 0, 1) := by decide +kernel
theorem dX6_trialGoesAsTold_49 : decode cX6_trialGoesAsTold 49 = .ok (.ireturn, 1) := by decide +kernel
theorem dX6_trialGoesAsTold_50 : decode cX6_trialGoesAsTold 50 = .ok (.iinc 3 1, 3) := by decide +kernel
theorem dX6_trialGoesAsTold_53 : decode cX6_trialGoesAsTold 53 = .ok (.goto (-51), 3) := by decide +kernel
theorem dX6_trialGoesAsTold_56 : decode cX6_trialGoesAsTold 56 = .ok (.iconst 1, 1) := by decide +kernel
theorem dX6_trialGoesAsTold_57 : decode cX6_trialGoesAsTold 57 = .ok (.ireturn, 1) := by decide +kernel
theorem dX6_within_0 : decode cX6_within 0 = .ok (.iload_n 0, 1) := by decide +kernel
theorem dX6_within_1 : decode cX6_within 1 = .ok (.iload_n 1, 1) := by decide +kernel
theorem dX6_within_2 : decode cX6_within 2 = .ok (.if_icmp .lt 12, 3) := by decide +kernel
theorem dX6_within_5 : decode cX6_within 5 = .ok (.iload_n 0, 1) := by decide +kernel
theorem dX6_within_6 : decode cX6_within 6 = .ok (.iload_n 2, 1) := by decide +kernel
theorem dX6_within_7 : decode cX6_within 7 = .ok (.if_icmp .gt 7, 3) := by decide +kernel
theorem dX6_within_10 : decode cX6_within 10 = .ok (.iconst 1, 1) := by decide +kernel
theorem dX6_within_11 : decode cX6_within 11 = .ok (.goto 4, 3) := by decide +kernel
theorem dX6_within_14 : decode cX6_within 14 = .ok (.iconst 0, 1) := by decide +kernel
theorem dX6_within_15 : decode cX6_within 15 = .ok (.ireturn, 1) := by decide +kernel
set_option maxRecDepth 20000 in
theorem ggX6_isCell_X6_within : GoodIn wsX6_isCell wsX6_within := goodIn_r _ [4] (by decide +kernel) (by decide +kernel)
set_option maxRecDepth 20000 in
theorem gX6_isCell_X6_within : GoodIn wsX6_isCell (va_wsS RX6 44 yX6_within wsX6_within) := goodIn_app (goodIn_of _ (by decide +kernel)) ggX6_isCell_X6_within
theorem dX6_isCell_0 : decode cX6_isCell 0 = .ok (.iload_n 0, 1) := by decide +kernel
theorem dX6_isCell_1 : decode cX6_isCell 1 = .ok (.iconst 0, 1) := by decide +kernel
theorem dX6_isCell_2 : decode cX6_isCell 2 = .ok (.bipush 35, 2) := by decide +kernel
theorem dX6_isCell_4 : decode cX6_isCell 4 = .ok (.invokestatic 44, 3) := by decide +kernel
theorem dX6_isCell_7 : decode cX6_isCell 7 = .ok (.ireturn, 1) := by decide +kernel
set_option maxRecDepth 20000 in
theorem ggX6_isKind_X6_within : GoodIn wsX6_isKind wsX6_within := goodIn_r _ [4] (by decide +kernel) (by decide +kernel)
set_option maxRecDepth 20000 in
theorem gX6_isKind_X6_within : GoodIn wsX6_isKind (va_wsS RX6 44 yX6_within wsX6_within) := goodIn_app (goodIn_of _ (by decide +kernel)) ggX6_isKind_X6_within
theorem dX6_isKind_0 : decode cX6_isKind 0 = .ok (.iload_n 0, 1) := by decide +kernel
theorem dX6_isKind_1 : decode cX6_isKind 1 = .ok (.iconst 0, 1) := by decide +kernel
theorem dX6_isKind_2 : decode cX6_isKind 2 = .ok (.bipush 6, 2) := by decide +kernel
theorem dX6_isKind_4 : decode cX6_isKind 4 = .ok (.invokestatic 44, 3) := by decide +kernel
theorem dX6_isKind_7 : decode cX6_isKind 7 = .ok (.ireturn, 1) := by decide +kernel
set_option maxRecDepth 20000 in
theorem ggX6_isHeading_X6_within : GoodIn wsX6_isHeading wsX6_within := goodIn_r _ [4] (by decide +kernel) (by decide +kernel)
set_option maxRecDepth 20000 in
theorem gX6_isHeading_X6_within : GoodIn wsX6_isHeading (va_wsS RX6 44 yX6_within wsX6_within) := goodIn_app (goodIn_of _ (by decide +kernel)) ggX6_isHeading_X6_within
theorem dX6_isHeading_0 : decode cX6_isHeading 0 = .ok (.iload_n 0, 1) := by decide +kernel
theorem dX6_isHeading_1 : decode cX6_isHeading 1 = .ok (.iconst 0, 1) := by decide +kernel
theorem dX6_isHeading_2 : decode cX6_isHeading 2 = .ok (.iconst 3, 1) := by decide +kernel
theorem dX6_isHeading_3 : decode cX6_isHeading 3 = .ok (.invokestatic 44, 3) := by decide +kernel
theorem dX6_isHeading_6 : decode cX6_isHeading 6 = .ok (.ireturn, 1) := by decide +kernel
theorem dX6_bit_0 : decode cX6_bit 0 = .ok (.lconst 1, 1) := by decide +kernel
theorem dX6_bit_1 : decode cX6_bit 1 = .ok (.iload_n 0, 1) := by decide +kernel
theorem dX6_bit_2 : decode cX6_bit 2 = .ok (.lshl, 1) := by decide +kernel
theorem dX6_bit_3 : decode cX6_bit 3 = .ok (.lreturn, 1) := by decide +kernel
theorem dX6_at_0 : decode cX6_at 0 = .ok (.iload_n 1, 1) := by decide +kernel
theorem dX6_at_1 : decode cX6_at 1 = .ok (.ifCond .lt 15, 3) := by decide +kernel
theorem dX6_at_4 : decode cX6_at 4 = .ok (.iload_n 1, 1) := by decide +kernel
theorem dX6_at_5 : decode cX6_at 5 = .ok (.aload_n 0, 1) := by decide +kernel
theorem dX6_at_6 : decode cX6_at 6 = .ok (.arraylength, 1) := by decide +kernel
theorem dX6_at_7 : decode cX6_at 7 = .ok (.if_icmp .ge 9, 3) := by decide +kernel
theorem dX6_at_10 : decode cX6_at 10 = .ok (.aload_n 0, 1) := by decide +kernel
theorem dX6_at_11 : decode cX6_at 11 = .ok (.iload_n 1, 1) := by decide +kernel
theorem dX6_at_12 : decode cX6_at 12 = .ok (.iaload, 1) := by decide +kernel
theorem dX6_at_13 : decode cX6_at 13 = .ok (.goto 4, 3) := by decide +kernel
theorem dX6_at_16 : decode cX6_at 16 = .ok (.iconst 0, 1) := by decide +kernel
theorem dX6_at_17 : decode cX6_at 17 = .ok (.ireturn, 1) := by decide +kernel
theorem dX6_put_0 : decode cX6_put 0 = .ok (.iload_n 1, 1) := by decide +kernel
theorem dX6_put_1 : decode cX6_put 1 = .ok (.ifCond .lt 13, 3) := by decide +kernel
theorem dX6_put_4 : decode cX6_put 4 = .ok (.iload_n 1, 1) := by decide +kernel
theorem dX6_put_5 : decode cX6_put 5 = .ok (.aload_n 0, 1) := by decide +kernel
theorem dX6_put_6 : decode cX6_put 6 = .ok (.arraylength, 1) := by decide +kernel
theorem dX6_put_7 : decode cX6_put 7 = .ok (.if_icmp .ge 7, 3) := by decide +kernel
theorem dX6_put_10 : decode cX6_put 10 = .ok (.aload_n 0, 1) := by decide +kernel
theorem dX6_put_11 : decode cX6_put 11 = .ok (.iload_n 1, 1) := by decide +kernel
theorem dX6_put_12 : decode cX6_put 12 = .ok (.iload_n 2, 1) := by decide +kernel
theorem dX6_put_13 : decode cX6_put 13 = .ok (.iastore, 1) := by decide +kernel
theorem dX6_put_14 : decode cX6_put 14 = .ok (.return_, 1) := by decide +kernel
theorem dX6_putAll_0 : decode cX6_putAll 0 = .ok (.aload_n 1, 1) := by decide +kernel
theorem dX6_putAll_1 : decode cX6_putAll 1 = .ok (.iconst 0, 1) := by decide +kernel
theorem dX6_putAll_2 : decode cX6_putAll 2 = .ok (.aload_n 0, 1) := by decide +kernel
theorem dX6_putAll_3 : decode cX6_putAll 3 = .ok (.iconst 0, 1) := by decide +kernel
theorem dX6_putAll_4 : decode cX6_putAll 4 = .ok (.aload_n 1, 1) := by decide +kernel
theorem dX6_putAll_5 : decode cX6_putAll 5 = .ok (.arraylength, 1) := by decide +kernel
theorem dX6_putAll_6 : decode cX6_putAll 6 = .ok (.aload_n 0, 1) := by decide +kernel
theorem dX6_putAll_7 : decode cX6_putAll 7 = .ok (.arraylength, 1) := by decide +kernel
theorem dX6_putAll_8 : decode cX6_putAll 8 = .ok (.invokestatic 311, 3) := by decide +kernel
theorem dX6_putAll_11 : decode cX6_putAll 11 = .ok (.invokestatic 316, 3) := by decide +kernel
theorem dX6_putAll_14 : decode cX6_putAll 14 = .ok (.return_, 1) := by decide +kernel
theorem dX6_commonDivisor_0 : decode cX6_commonDivisor 0 = .ok (.iload_n 1, 1) := by decide +kernel
theorem dX6_commonDivisor_1 : decode cX6_commonDivisor 1 = .ok (.istore_n 2, 1) := by decide +kernel
theorem dX6_commonDivisor_2 : decode cX6_commonDivisor 2 = .ok (.iload_n 0, 1) := by decide +kernel
theorem dX6_commonDivisor_3 : decode cX6_commonDivisor 3 = .ok (.istore_n 3, 1) := by decide +kernel
theorem dX6_commonDivisor_4 : decode cX6_commonDivisor 4 = .ok (.iconst 0, 1) := by decide +kernel
theorem dX6_commonDivisor_5 : decode cX6_commonDivisor 5 = .ok (.istore 4, 2) := by decide +kernel
theorem dX6_commonDivisor_7 : decode cX6_commonDivisor 7 = .ok (.iload 4, 2) := by decide +kernel
theorem dX6_commonDivisor_9 : decode cX6_commonDivisor 9 = .ok (.bipush 64, 2) := by decide +kernel
theorem dX6_commonDivisor_11 : decode cX6_commonDivisor 11 = .ok (.if_icmp .ge 23, 3) := by decide +kernel
theorem dX6_commonDivisor_14 : decode cX6_commonDivisor 14 = .ok (.iload_n 3, 1) := by decide +kernel
theorem dX6_commonDivisor_15 : decode cX6_commonDivisor 15 = .ok (.ifCond .le 19, 3) := by decide +kernel
theorem dX6_commonDivisor_18 : decode cX6_commonDivisor 18 = .ok (.iload_n 2, 1) := by decide +kernel
theorem dX6_commonDivisor_19 : decode cX6_commonDivisor 19 = .ok (.iload_n 3, 1) := by decide +kernel
theorem dX6_commonDivisor_20 : decode cX6_commonDivisor 20 = .ok (.irem, 1) := by decide +kernel
theorem dX6_commonDivisor_21 : decode cX6_commonDivisor 21 = .ok (.istore 5, 2) := by decide +kernel
theorem dX6_commonDivisor_23 : decode cX6_commonDivisor 23 = .ok (.iload_n 3, 1) := by decide +kernel
theorem dX6_commonDivisor_24 : decode cX6_commonDivisor 24 = .ok (.istore_n 2, 1) := by decide +kernel
theorem dX6_commonDivisor_25 : decode cX6_commonDivisor 25 = .ok (.iload 5, 2) := by decide +kernel
theorem dX6_commonDivisor_27 : decode cX6_commonDivisor 27 = .ok (.istore_n 3, 1) := by decide +kernel
theorem dX6_commonDivisor_28 : decode cX6_commonDivisor 28 = .ok (.iinc 4 1, 3) := by decide +kernel
theorem dX6_commonDivisor_31 : decode cX6_commonDivisor 31 = .ok (.goto (-24), 3) := by decide +kernel
theorem dX6_commonDivisor_34 : decode cX6_commonDivisor 34 = .ok (.iload_n 2, 1) := by decide +kernel
theorem dX6_commonDivisor_35 : decode cX6_commonDivisor 35 = .ok (.ireturn, 1) := by decide +kernel
theorem dX6_power_0 : decode cX6_power 0 = .ok (.lconst 1, 1) := by decide +kernel
theorem dX6_power_1 : decode cX6_power 1 = .ok (.lstore_n 2, 1) := by decide +kernel
theorem dX6_power_2 : decode cX6_power 2 = .ok (.iconst 0, 1) := by decide +kernel
theorem dX6_power_3 : decode cX6_power 3 = .ok (.istore 4, 2) := by decide +kernel
theorem dX6_power_5 : decode cX6_power 5 = .ok (.iload 4, 2) := by decide +kernel
theorem dX6_power_7 : decode cX6_power 7 = .ok (.iload_n 1, 1) := by decide +kernel
theorem dX6_power_8 : decode cX6_power 8 = .ok (.if_icmp .ge 14, 3) := by decide +kernel
theorem dX6_power_11 : decode cX6_power 11 = .ok (.lload_n 2, 1) := by decide +kernel
theorem dX6_power_12 : decode cX6_power 12 = .ok (.iload_n 0, 1) := by decide +kernel
theorem dX6_power_13 : decode cX6_power 13 = .ok (.i2l, 1) := by decide +kernel
theorem dX6_power_14 : decode cX6_power 14 = .ok (.lmul, 1) := by decide +kernel
theorem dX6_power_15 : decode cX6_power 15 = .ok (.lstore_n 2, 1) := by decide +kernel
theorem dX6_power_16 : decode cX6_power 16 = .ok (.iinc 4 1, 3) := by decide +kernel
theorem dX6_power_19 : decode cX6_power 19 = .ok (.goto (-14), 3) := by decide +kernel
theorem dX6_power_22 : decode cX6_power 22 = .ok (.lload_n 2, 1) := by decide +kernel
theorem dX6_power_23 : decode cX6_power 23 = .ok (.lreturn, 1) := by decide +kernel
