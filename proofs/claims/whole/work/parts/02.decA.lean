theorem dX0_distance_0 : decode cX0_distance 0 = .ok (.iload_n 0, 1) := by decide +kernel
theorem dX0_distance_1 : decode cX0_distance 1 = .ok (.bipush 6, 2) := by decide +kernel
theorem dX0_distance_3 : decode cX0_distance 3 = .ok (.idiv, 1) := by decide +kernel
theorem dX0_distance_4 : decode cX0_distance 4 = .ok (.iload_n 1, 1) := by decide +kernel
theorem dX0_distance_5 : decode cX0_distance 5 = .ok (.bipush 6, 2) := by decide +kernel
theorem dX0_distance_7 : decode cX0_distance 7 = .ok (.idiv, 1) := by decide +kernel
theorem dX0_distance_8 : decode cX0_distance 8 = .ok (.isub, 1) := by decide +kernel
theorem dX0_distance_9 : decode cX0_distance 9 = .ok (.istore_n 2, 1) := by decide +kernel
theorem dX0_distance_10 : decode cX0_distance 10 = .ok (.iload_n 0, 1) := by decide +kernel
theorem dX0_distance_11 : decode cX0_distance 11 = .ok (.bipush 6, 2) := by decide +kernel
theorem dX0_distance_13 : decode cX0_distance 13 = .ok (.irem, 1) := by decide +kernel
theorem dX0_distance_14 : decode cX0_distance 14 = .ok (.iload_n 1, 1) := by decide +kernel
theorem dX0_distance_15 : decode cX0_distance 15 = .ok (.bipush 6, 2) := by decide +kernel
theorem dX0_distance_17 : decode cX0_distance 17 = .ok (.irem, 1) := by decide +kernel
theorem dX0_distance_18 : decode cX0_distance 18 = .ok (.isub, 1) := by decide +kernel
theorem dX0_distance_19 : decode cX0_distance 19 = .ok (.istore_n 3, 1) := by decide +kernel
theorem dX0_distance_20 : decode cX0_distance 20 = .ok (.iload_n 2, 1) := by decide +kernel
theorem dX0_distance_21 : decode cX0_distance 21 = .ok (.ifCond .ge 8, 3) := by decide +kernel
theorem dX0_distance_24 : decode cX0_distance 24 = .ok (.iload_n 2, 1) := by decide +kernel
theorem dX0_distance_25 : decode cX0_distance 25 = .ok (.ineg, 1) := by decide +kernel
theorem dX0_distance_26 : decode cX0_distance 26 = .ok (.goto 4, 3) := by decide +kernel
theorem dX0_distance_29 : decode cX0_distance 29 = .ok (.iload_n 2, 1) := by decide +kernel
theorem dX0_distance_30 : decode cX0_distance 30 = .ok (.iload_n 3, 1) := by decide +kernel
theorem dX0_distance_31 : decode cX0_distance 31 = .ok (.ifCond .ge 8, 3) := by decide +kernel
theorem dX0_distance_34 : decode cX0_distance 34 = .ok (.iload_n 3, 1) := by decide +kernel
theorem dX0_distance_35 : decode cX0_distance 35 = .ok (.ineg, 1) := by decide +kernel
theorem dX0_distance_36 : decode cX0_distance 36 = .ok (.goto 4, 3) := by decide +kernel
theorem dX0_distance_39 : decode cX0_distance 39 = .ok (.iload_n 3, 1) := by decide +kernel
theorem dX0_distance_40 : decode cX0_distance 40 = .ok (.iadd, 1) := by decide +kernel
theorem dX0_distance_41 : decode cX0_distance 41 = .ok (.ireturn, 1) := by decide +kernel
theorem dX0_turned_0 : decode cX0_turned 0 = .ok (.iload_n 0, 1) := by decide +kernel
theorem dX0_turned_1 : decode cX0_turned 1 = .ok (.iload_n 1, 1) := by decide +kernel
theorem dX0_turned_2 : decode cX0_turned 2 = .ok (.iadd, 1) := by decide +kernel
theorem dX0_turned_3 : decode cX0_turned 3 = .ok (.iconst 4, 1) := by decide +kernel
theorem dX0_turned_4 : decode cX0_turned 4 = .ok (.irem, 1) := by decide +kernel
theorem dX0_turned_5 : decode cX0_turned 5 = .ok (.ireturn, 1) := by decide +kernel
theorem dX0_neighbour_0 : decode cX0_neighbour 0 = .ok (.iload_n 0, 1) := by decide +kernel
theorem dX0_neighbour_1 : decode cX0_neighbour 1 = .ok (.bipush 6, 2) := by decide +kernel
theorem dX0_neighbour_3 : decode cX0_neighbour 3 = .ok (.idiv, 1) := by decide +kernel
theorem dX0_neighbour_4 : decode cX0_neighbour 4 = .ok (.istore_n 2, 1) := by decide +kernel
theorem dX0_neighbour_5 : decode cX0_neighbour 5 = .ok (.iload_n 0, 1) := by decide +kernel
theorem dX0_neighbour_6 : decode cX0_neighbour 6 = .ok (.bipush 6, 2) := by decide +kernel
theorem dX0_neighbour_8 : decode cX0_neighbour 8 = .ok (.irem, 1) := by decide +kernel
theorem dX0_neighbour_9 : decode cX0_neighbour 9 = .ok (.istore_n 3, 1) := by decide +kernel
theorem dX0_neighbour_10 : decode cX0_neighbour 10 = .ok (.iload_n 1, 1) := by decide +kernel
theorem dX0_neighbour_11 : decode cX0_neighbour 11 = .ok (.tableswitch 65 0 2 #[25, 38, 51], 25) := by decide +kernel
theorem dX0_neighbour_36 : decode cX0_neighbour 36 = .ok (.iload_n 2, 1) := by decide +kernel
theorem dX0_neighbour_37 : decode cX0_neighbour 37 = .ok (.ifCond .le 10, 3) := by decide +kernel
theorem dX0_neighbour_40 : decode cX0_neighbour 40 = .ok (.iload_n 0, 1) := by decide +kernel
theorem dX0_neighbour_41 : decode cX0_neighbour 41 = .ok (.bipush 6, 2) := by decide +kernel
theorem dX0_neighbour_43 : decode cX0_neighbour 43 = .ok (.isub, 1) := by decide +kernel
theorem dX0_neighbour_44 : decode cX0_neighbour 44 = .ok (.goto 4, 3) := by decide +kernel
theorem dX0_neighbour_47 : decode cX0_neighbour 47 = .ok (.iconst (-1), 1) := by decide +kernel
theorem dX0_neighbour_48 : decode cX0_neighbour 48 = .ok (.ireturn, 1) := by decide +kernel
theorem dX0_neighbour_49 : decode cX0_neighbour 49 = .ok (.iload_n 3, 1) := by decide +kernel
theorem dX0_neighbour_50 : decode cX0_neighbour 50 = .ok (.iconst 5, 1) := by decide +kernel
theorem dX0_neighbour_51 : decode cX0_neighbour 51 = .ok (.if_icmp .ge 9, 3) := by decide +kernel
theorem dX0_neighbour_54 : decode cX0_neighbour 54 = .ok (.iload_n 0, 1) := by decide +kernel
theorem dX0_neighbour_55 : decode cX0_neighbour 55 = .ok (.iconst 1, 1) := by decide +kernel
theorem dX0_neighbour_56 : decode cX0_neighbour 56 = .ok (.iadd, 1) := by decide +kernel
theorem dX0_neighbour_57 : decode cX0_neighbour 57 = .ok (.goto 4, 3) := by decide +kernel
theorem dX0_neighbour_60 : decode cX0_neighbour 60 = .ok (.iconst (-1), 1) := by decide +kernel
theorem dX0_neighbour_61 : decode cX0_neighbour 61 = .ok (.ireturn, 1) := by decide +kernel
theorem dX0_neighbour_62 : decode cX0_neighbour 62 = .ok (.iload_n 2, 1) := by decide +kernel
theorem dX0_neighbour_63 : decode cX0_neighbour 63 = .ok (.iconst 5, 1) := by decide +kernel
theorem dX0_neighbour_64 : decode cX0_neighbour 64 = .ok (.if_icmp .ge 10, 3) := by decide +kernel
theorem dX0_neighbour_67 : decode cX0_neighbour 67 = .ok (.iload_n 0, 1) := by decide +kernel
theorem dX0_neighbour_68 : decode cX0_neighbour 68 = .ok (.bipush 6, 2) := by decide +kernel
theorem dX0_neighbour_70 : decode cX0_neighbour 70 = .ok (.iadd, 1) := by decide +kernel
theorem dX0_neighbour_71 : decode cX0_neighbour 71 = .ok (.goto 4, 3) := by decide +kernel
theorem dX0_neighbour_74 : decode cX0_neighbour 74 = .ok (.iconst (-1), 1) := by decide +kernel
theorem dX0_neighbour_75 : decode cX0_neighbour 75 = .ok (.ireturn, 1) := by decide +kernel
theorem dX0_neighbour_76 : decode cX0_neighbour 76 = .ok (.iload_n 3, 1) := by decide +kernel
theorem dX0_neighbour_77 : decode cX0_neighbour 77 = .ok (.ifCond .le 9, 3) := by decide +kernel
theorem dX0_neighbour_80 : decode cX0_neighbour 80 = .ok (.iload_n 0, 1) := by decide +kernel
theorem dX0_neighbour_81 : decode cX0_neighbour 81 = .ok (.iconst 1, 1) := by decide +kernel
theorem dX0_neighbour_82 : decode cX0_neighbour 82 = .ok (.isub, 1) := by decide +kernel
theorem dX0_neighbour_83 : decode cX0_neighbour 83 = .ok (.goto 4, 3) := by decide +kernel
theorem dX0_neighbour_86 : decode cX0_neighbour 86 = .ok (.iconst (-1), 1) := by decide +kernel
theorem dX0_neighbour_87 : decode cX0_neighbour 87 = .ok (.ireturn, 1) := by decide +kernel
theorem dX0_neighbours_0 : decode cX0_neighbours 0 = .ok (.lload_n 0, 1) := by decide +kernel
theorem dX0_neighbours_1 : decode cX0_neighbours 1 = .ok (.ldc2_w 11, 3) := by decide +kernel
theorem dX0_neighbours_4 : decode cX0_neighbours 4 = .ok (.land, 1) := by decide +kernel
theorem dX0_neighbours_5 : decode cX0_neighbours 5 = .ok (.iconst 1, 1) := by decide +kernel
theorem dX0_neighbours_6 : decode cX0_neighbours 6 = .ok (.lshl, 1) := by decide +kernel
theorem dX0_neighbours_7 : decode cX0_neighbours 7 = .ok (.lload_n 0, 1) := by decide +kernel
theorem dX0_neighbours_8 : decode cX0_neighbours 8 = .ok (.ldc2_w 13, 3) := by decide +kernel
theorem dX0_neighbours_11 : decode cX0_neighbours 11 = .ok (.land, 1) := by decide +kernel
theorem dX0_neighbours_12 : decode cX0_neighbours 12 = .ok (.iconst 1, 1) := by decide +kernel
theorem dX0_neighbours_13 : decode cX0_neighbours 13 = .ok (.lushr, 1) := by decide +kernel
theorem dX0_neighbours_14 : decode cX0_neighbours 14 = .ok (.lor, 1) := by decide +kernel
theorem dX0_neighbours_15 : decode cX0_neighbours 15 = .ok (.lstore_n 2, 1) := by decide +kernel
theorem dX0_neighbours_16 : decode cX0_neighbours 16 = .ok (.lload_n 0, 1) := by decide +kernel
theorem dX0_neighbours_17 : decode cX0_neighbours 17 = .ok (.bipush 6, 2) := by decide +kernel
theorem dX0_neighbours_19 : decode cX0_neighbours 19 = .ok (.lshl, 1) := by decide +kernel
theorem dX0_neighbours_20 : decode cX0_neighbours 20 = .ok (.lload_n 0, 1) := by decide +kernel
theorem dX0_neighbours_21 : decode cX0_neighbours 21 = .ok (.bipush 6, 2) := by decide +kernel
theorem dX0_neighbours_23 : decode cX0_neighbours 23 = .ok (.lushr, 1) := by decide +kernel
theorem dX0_neighbours_24 : decode cX0_neighbours 24 = .ok (.lor, 1) := by decide +kernel
theorem dX0_neighbours_25 : decode cX0_neighbours 25 = .ok (.lload_n 2, 1) := by decide +kernel
theorem dX0_neighbours_26 : decode cX0_neighbours 26 = .ok (.lor, 1) := by decide +kernel
theorem dX0_neighbours_27 : decode cX0_neighbours 27 = .ok (.ldc2_w 15, 3) := by decide +kernel
theorem dX0_neighbours_30 : decode cX0_neighbours 30 = .ok (.land, 1) := by decide +kernel
theorem dX0_neighbours_31 : decode cX0_neighbours 31 = .ok (.lreturn, 1) := by decide +kernel
set_option maxRecDepth 20000 in
theorem ggX0_least_X6_bit : GoodIn wsX0_least wsX6_bit := goodIn_r _ [3] (by decide +kernel) (by decide +kernel)
set_option maxRecDepth 20000 in
theorem gX0_least_X6_bit_n17 : GoodIn wsX0_least (wsX6_bit) := ggX0_least_X6_bit
theorem dX0_least_0 : decode cX0_least 0 = .ok (.iconst 0, 1) := by decide +kernel
theorem dX0_least_1 : decode cX0_least 1 = .ok (.istore_n 2, 1) := by decide +kernel
theorem dX0_least_2 : decode cX0_least 2 = .ok (.iload_n 2, 1) := by decide +kernel
theorem dX0_least_3 : decode cX0_least 3 = .ok (.bipush 36, 2) := by decide +kernel
theorem dX0_least_5 : decode cX0_least 5 = .ok (.if_icmp .ge 22, 3) := by decide +kernel
theorem dX0_least_8 : decode cX0_least 8 = .ok (.lload_n 0, 1) := by decide +kernel
theorem dX0_least_9 : decode cX0_least 9 = .ok (.iload_n 2, 1) := by decide +kernel
theorem dX0_least_10 : decode cX0_least 10 = .ok (.invokestatic 17, 3) := by decide +kernel
theorem dX0_least_13 : decode cX0_least 13 = .ok (.land, 1) := by decide +kernel
theorem dX0_least_14 : decode cX0_least 14 = .ok (.lconst 0, 1) := by decide +kernel
theorem dX0_least_15 : decode cX0_least 15 = .ok (.lcmp, 1) := by decide +kernel
theorem dX0_least_16 : decode cX0_least 16 = .ok (.ifCond .eq 5, 3) := by decide +kernel
theorem dX0_least_19 : decode cX0_least 19 = .ok (.iload_n 2, 1) := by decide +kernel
theorem dX0_least_20 : decode cX0_least 20 = .ok (.ireturn, 1) := by decide +kernel
theorem dX0_least_21 : decode cX0_least 21 = .ok (.iinc 2 1, 3) := by decide +kernel
theorem dX0_least_24 : decode cX0_least 24 = .ok (.goto (-22), 3) := by decide +kernel
theorem dX0_least_27 : decode cX0_least 27 = .ok (.iconst (-1), 1) := by decide +kernel
theorem dX0_least_28 : decode cX0_least 28 = .ok (.ireturn, 1) := by decide +kernel
set_option maxRecDepth 20000 in
theorem ggX0_spread_X0_neighbours : GoodIn wsX0_spread wsX0_neighbours := goodIn_r _ [4, 5, 6, 7] (by decide +kernel) (by decide +kernel)
set_option maxRecDepth 20000 in
theorem gX0_spread_X0_neighbours : GoodIn wsX0_spread (va_wsS RX0 21 yX0_neighbours wsX0_neighbours) := goodIn_app (goodIn_of _ (by decide +kernel)) ggX0_spread_X0_neighbours
theorem dX0_spread_0 : decode cX0_spread 0 = .ok (.lload_n 0, 1) := by decide +kernel
theorem dX0_spread_1 : decode cX0_spread 1 = .ok (.lstore 4, 2) := by decide +kernel
theorem dX0_spread_3 : decode cX0_spread 3 = .ok (.iconst 0, 1) := by decide +kernel
theorem dX0_spread_4 : decode cX0_spread 4 = .ok (.istore 6, 2) := by decide +kernel
theorem dX0_spread_6 : decode cX0_spread 6 = .ok (.iload 6, 2) := by decide +kernel
theorem dX0_spread_8 : decode cX0_spread 8 = .ok (.bipush 36, 2) := by decide +kernel
theorem dX0_spread_10 : decode cX0_spread 10 = .ok (.if_icmp .ge 36, 3) := by decide +kernel
theorem dX0_spread_13 : decode cX0_spread 13 = .ok (.lload 4, 2) := by decide +kernel
theorem dX0_spread_15 : decode cX0_spread 15 = .ok (.lload 4, 2) := by decide +kernel
theorem dX0_spread_17 : decode cX0_spread 17 = .ok (.invokestatic 21, 3) := by decide +kernel
theorem dX0_spread_20 : decode cX0_spread 20 = .ok (.lload_n 2, 1) := by decide +kernel
theorem dX0_spread_21 : decode cX0_spread 21 = .ok (.land, 1) := by decide +kernel
theorem dX0_spread_22 : decode cX0_spread 22 = .ok (.lor, 1) := by decide +kernel
theorem dX0_spread_23 : decode cX0_spread 23 = .ok (.lstore 7, 2) := by decide +kernel
theorem dX0_spread_25 : decode cX0_spread 25 = .ok (.lload 7, 2) := by decide +kernel
theorem dX0_spread_27 : decode cX0_spread 27 = .ok (.lload 4, 2) := by decide +kernel
theorem dX0_spread_29 : decode cX0_spread 29 = .ok (.lcmp, 1) := by decide +kernel
theorem dX0_spread_30 : decode cX0_spread 30 = .ok (.ifCond .ne 6, 3) := by decide +kernel
theorem dX0_spread_33 : decode cX0_spread 33 = .ok (.lload 4, 2) := by decide +kernel
theorem dX0_spread_35 : decode cX0_spread 35 = .ok (.lreturn, 1) := by decide +kernel
theorem dX0_spread_36 : decode cX0_spread 36 = .ok (.lload 7, 2) := by decide +kernel
theorem dX0_spread_38 : decode cX0_spread 38 = .ok (.lstore 4, 2) := by decide +kernel
theorem dX0_spread_40 : decode cX0_spread 40 = .ok (.iinc 6 1, 3) := by decide +kernel
theorem dX0_spread_43 : decode cX0_spread 43 = .ok (.goto (-37), 3) := by decide +kernel
theorem dX0_spread_46 : decode cX0_spread 46 = .ok (.lload 4, 2) := by decide +kernel
theorem dX0_spread_48 : decode cX0_spread 48 = .ok (.lreturn, 1) := by decide +kernel
set_option maxRecDepth 20000 in
theorem ggX0_reach_X6_bit : GoodIn wsX0_reach wsX6_bit := goodIn_r _ [3] (by decide +kernel) (by decide +kernel)
set_option maxRecDepth 20000 in
theorem gX0_reach_X6_bit_n17 : GoodIn wsX0_reach (wsX6_bit) := ggX0_reach_X6_bit
set_option maxRecDepth 20000 in
theorem ggX0_reach_X0_spread : GoodIn wsX0_reach wsX0_spread := goodIn_r _ [7, 8, 9, 6, 10, 11, 12, 13] (by decide +kernel) (by decide +kernel)
set_option maxRecDepth 20000 in
theorem gX0_reach_X0_spread : GoodIn wsX0_reach (va_wsS RX0 25 yX0_spread wsX0_spread) := goodIn_app (goodIn_of _ (by decide +kernel)) ggX0_reach_X0_spread
theorem dX0_reach_0 : decode cX0_reach 0 = .ok (.iload_n 0, 1) := by decide +kernel
theorem dX0_reach_1 : decode cX0_reach 1 = .ok (.invokestatic 17, 3) := by decide +kernel
theorem dX0_reach_4 : decode cX0_reach 4 = .ok (.lload_n 1, 1) := by decide +kernel
theorem dX0_reach_5 : decode cX0_reach 5 = .ok (.land, 1) := by decide +kernel
theorem dX0_reach_6 : decode cX0_reach 6 = .ok (.lload_n 1, 1) := by decide +kernel
theorem dX0_reach_7 : decode cX0_reach 7 = .ok (.invokestatic 25, 3) := by decide +kernel
theorem dX0_reach_10 : decode cX0_reach 10 = .ok (.lreturn, 1) := by decide +kernel
set_option maxRecDepth 20000 in
theorem ggX0_areJoined_X0_reach : GoodIn wsX0_areJoined wsX0_reach := goodIn_r _ [4, 5, 6, 7, 8, 9, 3, 10, 11, 12, 13, 14, 15, 16] (by decide +kernel) (by decide +kernel)
set_option maxRecDepth 20000 in
theorem gX0_areJoined_X0_reach : GoodIn wsX0_areJoined (va_wsS RX0 29 yX0_reach wsX0_reach) := goodIn_app (goodIn_of _ (by decide +kernel)) ggX0_areJoined_X0_reach
set_option maxRecDepth 20000 in
theorem ggX0_areJoined_X6_bit : GoodIn wsX0_areJoined wsX6_bit := goodIn_r _ [7] (by decide +kernel) (by decide +kernel)
set_option maxRecDepth 20000 in
theorem gX0_areJoined_X6_bit_n17 : GoodIn wsX0_areJoined (wsX6_bit) := ggX0_areJoined_X6_bit
theorem dX0_areJoined_0 : decode cX0_areJoined 0 = .ok (.iload_n 0, 1) := by decide +kernel
theorem dX0_areJoined_1 : decode cX0_areJoined 1 = .ok (.lload_n 2, 1) := by decide +kernel
theorem dX0_areJoined_2 : decode cX0_areJoined 2 = .ok (.invokestatic 29, 3) := by decide +kernel
theorem dX0_areJoined_5 : decode cX0_areJoined 5 = .ok (.iload_n 1, 1) := by decide +kernel
theorem dX0_areJoined_6 : decode cX0_areJoined 6 = .ok (.invokestatic 17, 3) := by decide +kernel
theorem dX0_areJoined_9 : decode cX0_areJoined 9 = .ok (.land, 1) := by decide +kernel
theorem dX0_areJoined_10 : decode cX0_areJoined 10 = .ok (.lconst 0, 1) := by decide +kernel
theorem dX0_areJoined_11 : decode cX0_areJoined 11 = .ok (.lcmp, 1) := by decide +kernel
theorem dX0_areJoined_12 : decode cX0_areJoined 12 = .ok (.ifCond .eq 7, 3) := by decide +kernel
theorem dX0_areJoined_15 : decode cX0_areJoined 15 = .ok (.iconst 1, 1) := by decide +kernel
theorem dX0_areJoined_16 : decode cX0_areJoined 16 = .ok (.goto 4, 3) := by decide +kernel
theorem dX0_areJoined_19 : decode cX0_areJoined 19 = .ok (.iconst 0, 1) := by decide +kernel
theorem dX0_areJoined_20 : decode cX0_areJoined 20 = .ok (.ireturn, 1) := by decide +kernel
set_option maxRecDepth 20000 in
theorem ggX0_steps_X6_bit : GoodIn wsX0_steps wsX6_bit := goodIn_r _ [3] (by decide +kernel) (by decide +kernel)
set_option maxRecDepth 20000 in
theorem gX0_steps_X6_bit_n17 : GoodIn wsX0_steps (wsX6_bit) := ggX0_steps_X6_bit
set_option maxRecDepth 20000 in
theorem ggX0_steps_X0_neighbours : GoodIn wsX0_steps wsX0_neighbours := goodIn_r _ [7, 8, 9, 10] (by decide +kernel) (by decide +kernel)
set_option maxRecDepth 20000 in
theorem gX0_steps_X0_neighbours : GoodIn wsX0_steps (va_wsS RX0 21 yX0_neighbours wsX0_neighbours) := goodIn_app (goodIn_of _ (by decide +kernel)) ggX0_steps_X0_neighbours
theorem dX0_steps_0 : decode cX0_steps 0 = .ok (.iload_n 0, 1) := by decide +kernel
theorem dX0_steps_1 : decode cX0_steps 1 = .ok (.invokestatic 17, 3) := by decide +kernel
theorem dX0_steps_4 : decode cX0_steps 4 = .ok (.lload_n 2, 1) := by decide +kernel
theorem dX0_steps_5 : decode cX0_steps 5 = .ok (.land, 1) := by decide +kernel
theorem dX0_steps_6 : decode cX0_steps 6 = .ok (.lstore 4, 2) := by decide +kernel
theorem dX0_steps_8 : decode cX0_steps 8 = .ok (.iconst 0, 1) := by decide +kernel
theorem dX0_steps_9 : decode cX0_steps 9 = .ok (.istore 6, 2) := by decide +kernel
theorem dX0_steps_11 : decode cX0_steps 11 = .ok (.iload 6, 2) := by decide +kernel
theorem dX0_steps_13 : decode cX0_steps 13 = .ok (.bipush 36, 2) := by decide +kernel
theorem dX0_steps_15 : decode cX0_steps 15 = .ok (.if_icmp .ge 36, 3) := by decide +kernel
theorem dX0_steps_18 : decode cX0_steps 18 = .ok (.lload 4, 2) := by decide +kernel
theorem dX0_steps_20 : decode cX0_steps 20 = .ok (.iload_n 1, 1) := by decide +kernel
theorem dX0_steps_21 : decode cX0_steps 21 = .ok (.invokestatic 17, 3) := by decide +kernel
theorem dX0_steps_24 : decode cX0_steps 24 = .ok (.land, 1) := by decide +kernel
theorem dX0_steps_25 : decode cX0_steps 25 = .ok (.lconst 0, 1) := by decide +kernel
theorem dX0_steps_26 : decode cX0_steps 26 = .ok (.lcmp, 1) := by decide +kernel
theorem dX0_steps_27 : decode cX0_steps 27 = .ok (.ifCond .eq 6, 3) := by decide +kernel
theorem dX0_steps_30 : decode cX0_steps 30 = .ok (.iload 6, 2) := by decide +kernel
theorem dX0_steps_32 : decode cX0_steps 32 = .ok (.ireturn, 1) := by decide +kernel
theorem dX0_steps_33 : decode cX0_steps 33 = .ok (.lload 4, 2) := by decide +kernel
theorem dX0_steps_35 : decode cX0_steps 35 = .ok (.lload 4, 2) := by decide +kernel
theorem dX0_steps_37 : decode cX0_steps 37 = .ok (.invokestatic 21, 3) := by decide +kernel
theorem dX0_steps_40 : decode cX0_steps 40 = .ok (.lload_n 2, 1) := by decide +kernel
theorem dX0_steps_41 : decode cX0_steps 41 = .ok (.land, 1) := by decide +kernel
theorem dX0_steps_42 : decode cX0_steps 42 = .ok (.lor, 1) := by decide +kernel
theorem dX0_steps_43 : decode cX0_steps 43 = .ok (.lstore 4, 2) := by decide +kernel
theorem dX0_steps_45 : decode cX0_steps 45 = .ok (.iinc 6 1, 3) := by decide +kernel
theorem dX0_steps_48 : decode cX0_steps 48 = .ok (.goto (-37), 3) := by decide +kernel
theorem dX0_steps_51 : decode cX0_steps 51 = .ok (.iconst (-1), 1) := by decide +kernel
theorem dX0_steps_52 : decode cX0_steps 52 = .ok (.ireturn, 1) := by decide +kernel
set_option maxRecDepth 20000 in
theorem ggX0_countGroups_X0_spread : GoodIn wsX0_countGroups wsX0_spread := goodIn_r _ [5, 6, 7, 4, 8, 9, 10, 11] (by decide +kernel) (by decide +kernel)
set_option maxRecDepth 20000 in
theorem gX0_countGroups_X0_spread : GoodIn wsX0_countGroups (va_wsS RX0 25 yX0_spread wsX0_spread) := goodIn_app (goodIn_of _ (by decide +kernel)) ggX0_countGroups_X0_spread
theorem dX0_countGroups_0 : decode cX0_countGroups 0 = .ok (.lload_n 0, 1) := by decide +kernel
theorem dX0_countGroups_1 : decode cX0_countGroups 1 = .ok (.lstore_n 2, 1) := by decide +kernel
theorem dX0_countGroups_2 : decode cX0_countGroups 2 = .ok (.iconst 0, 1) := by decide +kernel
theorem dX0_countGroups_3 : decode cX0_countGroups 3 = .ok (.istore 4, 2) := by decide +kernel
theorem dX0_countGroups_5 : decode cX0_countGroups 5 = .ok (.iconst 0, 1) := by decide +kernel
theorem dX0_countGroups_6 : decode cX0_countGroups 6 = .ok (.istore 5, 2) := by decide +kernel
theorem dX0_countGroups_8 : decode cX0_countGroups 8 = .ok (.iload 5, 2) := by decide +kernel
theorem dX0_countGroups_10 : decode cX0_countGroups 10 = .ok (.bipush 36, 2) := by decide +kernel
theorem dX0_countGroups_12 : decode cX0_countGroups 12 = .ok (.if_icmp .ge 33, 3) := by decide +kernel
theorem dX0_countGroups_15 : decode cX0_countGroups 15 = .ok (.lload_n 2, 1) := by decide +kernel
theorem dX0_countGroups_16 : decode cX0_countGroups 16 = .ok (.lconst 0, 1) := by decide +kernel
theorem dX0_countGroups_17 : decode cX0_countGroups 17 = .ok (.lcmp, 1) := by decide +kernel
theorem dX0_countGroups_18 : decode cX0_countGroups 18 = .ok (.ifCond .eq 27, 3) := by decide +kernel
theorem dX0_countGroups_21 : decode cX0_countGroups 21 = .ok (.lload_n 2, 1) := by decide +kernel
theorem dX0_countGroups_22 : decode cX0_countGroups 22 = .ok (.lload_n 2, 1) := by decide +kernel
theorem dX0_countGroups_23 : decode cX0_countGroups 23 = .ok (.lload_n 2, 1) := by decide +kernel
theorem dX0_countGroups_24 : decode cX0_countGroups 24 = .ok (.lneg, 1) := by decide +kernel
theorem dX0_countGroups_25 : decode cX0_countGroups 25 = .ok (.land, 1) := by decide +kernel
theorem dX0_countGroups_26 : decode cX0_countGroups 26 = .ok (.lload_n 0, 1) := by decide +kernel
theorem dX0_countGroups_27 : decode cX0_countGroups 27 = .ok (.invokestatic 25, 3) := by decide +kernel
theorem dX0_countGroups_30 : decode cX0_countGroups 30 = .ok (.ldc2_w 33, 3) := by decide +kernel
theorem dX0_countGroups_33 : decode cX0_countGroups 33 = .ok (.lxor, 1) := by decide +kernel
theorem dX0_countGroups_34 : decode cX0_countGroups 34 = .ok (.land, 1) := by decide +kernel
theorem dX0_countGroups_35 : decode cX0_countGroups 35 = .ok (.lstore_n 2, 1) := by decide +kernel
theorem dX0_countGroups_36 : decode cX0_countGroups 36 = .ok (.iinc 4 1, 3) := by decide +kernel
theorem dX0_countGroups_39 : decode cX0_countGroups 39 = .ok (.iinc 5 1, 3) := by decide +kernel
theorem dX0_countGroups_42 : decode cX0_countGroups 42 = .ok (.goto (-34), 3) := by decide +kernel
theorem dX0_countGroups_45 : decode cX0_countGroups 45 = .ok (.iload 4, 2) := by decide +kernel
theorem dX0_countGroups_47 : decode cX0_countGroups 47 = .ok (.ireturn, 1) := by decide +kernel
set_option maxRecDepth 20000 in
theorem ggX0_cuts_X0_areJoined : GoodIn wsX0_cuts wsX0_areJoined := goodIn_r _ [5, 6, 7, 4, 8, 9, 10, 11, 12, 13, 14, 15, 16, 17, 18, 19, 20] (by decide +kernel) (by decide +kernel)
set_option maxRecDepth 20000 in
theorem gX0_cuts_X0_areJoined : GoodIn wsX0_cuts (va_wsS RX0 35 yX0_areJoined wsX0_areJoined) := goodIn_app (goodIn_of _ (by decide +kernel)) ggX0_cuts_X0_areJoined
set_option maxRecDepth 20000 in
theorem ggX0_cuts_X6_bit : GoodIn wsX0_cuts wsX6_bit := goodIn_r _ [11] (by decide +kernel) (by decide +kernel)
set_option maxRecDepth 20000 in
theorem gX0_cuts_X6_bit_n17 : GoodIn wsX0_cuts (wsX6_bit) := ggX0_cuts_X6_bit
theorem dX0_cuts_0 : decode cX0_cuts 0 = .ok (.lconst 0, 1) := by decide +kernel
theorem dX0_cuts_1 : decode cX0_cuts 1 = .ok (.lstore 4, 2) := by decide +kernel
theorem dX0_cuts_3 : decode cX0_cuts 3 = .ok (.iload_n 0, 1) := by decide +kernel
theorem dX0_cuts_4 : decode cX0_cuts 4 = .ok (.iload_n 1, 1) := by decide +kernel
theorem dX0_cuts_5 : decode cX0_cuts 5 = .ok (.lload_n 2, 1) := by decide +kernel
theorem dX0_cuts_6 : decode cX0_cuts 6 = .ok (.invokestatic 35, 3) := by decide +kernel
theorem dX0_cuts_9 : decode cX0_cuts 9 = .ok (.ifCond .ne 6, 3) := by decide +kernel
theorem dX0_cuts_12 : decode cX0_cuts 12 = .ok (.lload 4, 2) := by decide +kernel
theorem dX0_cuts_14 : decode cX0_cuts 14 = .ok (.lreturn, 1) := by decide +kernel
theorem dX0_cuts_15 : decode cX0_cuts 15 = .ok (.lload_n 2, 1) := by decide +kernel
theorem dX0_cuts_16 : decode cX0_cuts 16 = .ok (.iload_n 0, 1) := by decide +kernel
theorem dX0_cuts_17 : decode cX0_cuts 17 = .ok (.invokestatic 17, 3) := by decide +kernel
theorem dX0_cuts_20 : decode cX0_cuts 20 = .ok (.iload_n 1, 1) := by decide +kernel
theorem dX0_cuts_21 : decode cX0_cuts 21 = .ok (.invokestatic 17, 3) := by decide +kernel
theorem dX0_cuts_24 : decode cX0_cuts 24 = .ok (.lor, 1) := by decide +kernel
theorem dX0_cuts_25 : decode cX0_cuts 25 = .ok (.ldc2_w 33, 3) := by decide +kernel
theorem dX0_cuts_28 : decode cX0_cuts 28 = .ok (.lxor, 1) := by decide +kernel
theorem dX0_cuts_29 : decode cX0_cuts 29 = .ok (.land, 1) := by decide +kernel
theorem dX0_cuts_30 : decode cX0_cuts 30 = .ok (.lstore 6, 2) := by decide +kernel
theorem dX0_cuts_32 : decode cX0_cuts 32 = .ok (.iconst 0, 1) := by decide +kernel
theorem dX0_cuts_33 : decode cX0_cuts 33 = .ok (.istore 8, 2) := by decide +kernel
theorem dX0_cuts_35 : decode cX0_cuts 35 = .ok (.iload 8, 2) := by decide +kernel
theorem dX0_cuts_37 : decode cX0_cuts 37 = .ok (.bipush 36, 2) := by decide +kernel
theorem dX0_cuts_39 : decode cX0_cuts 39 = .ok (.if_icmp .ge 51, 3) := by decide +kernel
theorem dX0_cuts_42 : decode cX0_cuts 42 = .ok (.lload 6, 2) := by decide +kernel
theorem dX0_cuts_44 : decode cX0_cuts 44 = .ok (.iload 8, 2) := by decide +kernel
theorem dX0_cuts_46 : decode cX0_cuts 46 = .ok (.invokestatic 17, 3) := by decide +kernel
theorem dX0_cuts_49 : decode cX0_cuts 49 = .ok (.land, 1) := by decide +kernel
theorem dX0_cuts_50 : decode cX0_cuts 50 = .ok (.lconst 0, 1) := by decide +kernel
theorem dX0_cuts_51 : decode cX0_cuts 51 = .ok (.lcmp, 1) := by decide +kernel
theorem dX0_cuts_52 : decode cX0_cuts 52 = .ok (.ifCond .eq 32, 3) := by decide +kernel
theorem dX0_cuts_55 : decode cX0_cuts 55 = .ok (.iload_n 0, 1) := by decide +kernel
theorem dX0_cuts_56 : decode cX0_cuts 56 = .ok (.iload_n 1, 1) := by decide +kernel
theorem dX0_cuts_57 : decode cX0_cuts 57 = .ok (.lload_n 2, 1) := by decide +kernel
theorem dX0_cuts_58 : decode cX0_cuts 58 = .ok (.iload 8, 2) := by decide +kernel
theorem dX0_cuts_60 : decode cX0_cuts 60 = .ok (.invokestatic 17, 3) := by decide +kernel
theorem dX0_cuts_63 : decode cX0_cuts 63 = .ok (.ldc2_w 33, 3) := by decide +kernel
theorem dX0_cuts_66 : decode cX0_cuts 66 = .ok (.lxor, 1) := by decide +kernel
theorem dX0_cuts_67 : decode cX0_cuts 67 = .ok (.land, 1) := by decide +kernel
theorem dX0_cuts_68 : decode cX0_cuts 68 = .ok (.invokestatic 35, 3) := by decide +kernel
theorem dX0_cuts_71 : decode cX0_cuts 71 = .ok (.ifCond .ne 13, 3) := by decide +kernel
theorem dX0_cuts_74 : decode cX0_cuts 74 = .ok (.lload 4, 2) := by decide +kernel
theorem dX0_cuts_76 : decode cX0_cuts 76 = .ok (.iload 8, 2) := by decide +kernel
theorem dX0_cuts_78 : decode cX0_cuts 78 = .ok (.invokestatic 17, 3) := by decide +kernel
theorem dX0_cuts_81 : decode cX0_cuts 81 = .ok (.lor, 1) := by decide +kernel
theorem dX0_cuts_82 : decode cX0_cuts 82 = .ok (.lstore 4, 2) := by decide +kernel
theorem dX0_cuts_84 : decode cX0_cuts 84 = .ok (.iinc 8 1, 3) := by decide +kernel
theorem dX0_cuts_87 : decode cX0_cuts 87 = .ok (.goto (-52), 3) := by decide +kernel
theorem dX0_cuts_90 : decode cX0_cuts 90 = .ok (.lload 4, 2) := by decide +kernel
theorem dX0_cuts_92 : decode cX0_cuts 92 = .ok (.lreturn, 1) := by decide +kernel
set_option maxRecDepth 20000 in
theorem ggX0_fewestNew_X0_reach : GoodIn wsX0_fewestNew wsX0_reach := goodIn_r _ [4, 5, 6, 7, 8, 9, 3, 10, 11, 12, 13, 14, 15, 16] (by decide +kernel) (by decide +kernel)
set_option maxRecDepth 20000 in
theorem gX0_fewestNew_X0_reach : GoodIn wsX0_fewestNew (va_wsS RX0 29 yX0_reach wsX0_reach) := goodIn_app (goodIn_of _ (by decide +kernel)) ggX0_fewestNew_X0_reach
set_option maxRecDepth 20000 in
theorem ggX0_fewestNew_X6_bit : GoodIn wsX0_fewestNew wsX6_bit := goodIn_r _ [7] (by decide +kernel) (by decide +kernel)
set_option maxRecDepth 20000 in
theorem gX0_fewestNew_X6_bit_n17 : GoodIn wsX0_fewestNew (wsX6_bit) := ggX0_fewestNew_X6_bit
set_option maxRecDepth 20000 in
theorem ggX0_fewestNew_X0_neighbours : GoodIn wsX0_fewestNew wsX0_neighbours := goodIn_r _ [13, 14, 15, 16] (by decide +kernel) (by decide +kernel)
set_option maxRecDepth 20000 in
theorem gX0_fewestNew_X0_neighbours : GoodIn wsX0_fewestNew (va_wsS RX0 21 yX0_neighbours wsX0_neighbours) := goodIn_app (goodIn_of _ (by decide +kernel)) ggX0_fewestNew_X0_neighbours
set_option maxRecDepth 20000 in
theorem ggX0_fewestNew_X0_spread : GoodIn wsX0_fewestNew wsX0_spread := goodIn_r _ [10, 11, 12, 3, 13, 14, 15, 16] (by decide +kernel) (by decide +kernel)
set_option maxRecDepth 20000 in
theorem gX0_fewestNew_X0_spread : GoodIn wsX0_fewestNew (va_wsS RX0 25 yX0_spread wsX0_spread) := goodIn_app (goodIn_of _ (by decide +kernel)) ggX0_fewestNew_X0_spread
theorem dX0_fewestNew_0 : decode cX0_fewestNew 0 = .ok (.iload_n 0, 1) := by decide +kernel
theorem dX0_fewestNew_1 : decode cX0_fewestNew 1 = .ok (.lload_n 2, 1) := by decide +kernel
theorem dX0_fewestNew_2 : decode cX0_fewestNew 2 = .ok (.invokestatic 29, 3) := by decide +kernel
theorem dX0_fewestNew_5 : decode cX0_fewestNew 5 = .ok (.lstore 6, 2) := by decide +kernel
theorem dX0_fewestNew_7 : decode cX0_fewestNew 7 = .ok (.iconst 0, 1) := by decide +kernel
theorem dX0_fewestNew_8 : decode cX0_fewestNew 8 = .ok (.istore 8, 2) := by decide +kernel
theorem dX0_fewestNew_10 : decode cX0_fewestNew 10 = .ok (.iload 8, 2) := by decide +kernel
theorem dX0_fewestNew_12 : decode cX0_fewestNew 12 = .ok (.bipush 36, 2) := by decide +kernel
theorem dX0_fewestNew_14 : decode cX0_fewestNew 14 = .ok (.if_icmp .gt 50, 3) := by decide +kernel
theorem dX0_fewestNew_17 : decode cX0_fewestNew 17 = .ok (.lload 6, 2) := by decide +kernel
theorem dX0_fewestNew_19 : decode cX0_fewestNew 19 = .ok (.iload_n 1, 1) := by decide +kernel
theorem dX0_fewestNew_20 : decode cX0_fewestNew 20 = .ok (.invokestatic 17, 3) := by decide +kernel
theorem dX0_fewestNew_23 : decode cX0_fewestNew 23 = .ok (.land, 1) := by decide +kernel
theorem dX0_fewestNew_24 : decode cX0_fewestNew 24 = .ok (.lconst 0, 1) := by decide +kernel
theorem dX0_fewestNew_25 : decode cX0_fewestNew 25 = .ok (.lcmp, 1) := by decide +kernel
theorem dX0_fewestNew_26 : decode cX0_fewestNew 26 = .ok (.ifCond .eq 6, 3) := by decide +kernel
theorem dX0_fewestNew_29 : decode cX0_fewestNew 29 = .ok (.iload 8, 2) := by decide +kernel
theorem dX0_fewestNew_31 : decode cX0_fewestNew 31 = .ok (.ireturn, 1) := by decide +kernel
theorem dX0_fewestNew_32 : decode cX0_fewestNew 32 = .ok (.iload_n 0, 1) := by decide +kernel
theorem dX0_fewestNew_33 : decode cX0_fewestNew 33 = .ok (.invokestatic 17, 3) := by decide +kernel
theorem dX0_fewestNew_36 : decode cX0_fewestNew 36 = .ok (.lload 6, 2) := by decide +kernel
theorem dX0_fewestNew_38 : decode cX0_fewestNew 38 = .ok (.invokestatic 21, 3) := by decide +kernel
theorem dX0_fewestNew_41 : decode cX0_fewestNew 41 = .ok (.lor, 1) := by decide +kernel
theorem dX0_fewestNew_42 : decode cX0_fewestNew 42 = .ok (.lload 4, 2) := by decide +kernel
theorem dX0_fewestNew_44 : decode cX0_fewestNew 44 = .ok (.land, 1) := by decide +kernel
theorem dX0_fewestNew_45 : decode cX0_fewestNew 45 = .ok (.lstore 9, 2) := by decide +kernel
theorem dX0_fewestNew_47 : decode cX0_fewestNew 47 = .ok (.lload 6, 2) := by decide +kernel
theorem dX0_fewestNew_49 : decode cX0_fewestNew 49 = .ok (.lload 9, 2) := by decide +kernel
theorem dX0_fewestNew_51 : decode cX0_fewestNew 51 = .ok (.lor, 1) := by decide +kernel
theorem dX0_fewestNew_52 : decode cX0_fewestNew 52 = .ok (.lload_n 2, 1) := by decide +kernel
theorem dX0_fewestNew_53 : decode cX0_fewestNew 53 = .ok (.invokestatic 25, 3) := by decide +kernel
theorem dX0_fewestNew_56 : decode cX0_fewestNew 56 = .ok (.lstore 6, 2) := by decide +kernel
theorem dX0_fewestNew_58 : decode cX0_fewestNew 58 = .ok (.iinc 8 1, 3) := by decide +kernel
theorem dX0_fewestNew_61 : decode cX0_fewestNew 61 = .ok (.goto (-51), 3) := by decide +kernel
theorem dX0_fewestNew_64 : decode cX0_fewestNew 64 = .ok (.iconst (-1), 1) := by decide +kernel
theorem dX0_fewestNew_65 : decode cX0_fewestNew 65 = .ok (.ireturn, 1) := by decide +kernel
set_option maxRecDepth 20000 in
theorem ggX0_benches_X6_bit : GoodIn wsX0_benches wsX6_bit := goodIn_r _ [3] (by decide +kernel) (by decide +kernel)
set_option maxRecDepth 20000 in
theorem gX0_benches_X6_bit_n17 : GoodIn wsX0_benches (wsX6_bit) := ggX0_benches_X6_bit
set_option maxRecDepth 20000 in
theorem ggX0_benches_X0_neighbours : GoodIn wsX0_benches wsX0_neighbours := goodIn_r _ [7, 8, 9, 10] (by decide +kernel) (by decide +kernel)
set_option maxRecDepth 20000 in
theorem gX0_benches_X0_neighbours : GoodIn wsX0_benches (va_wsS RX0 21 yX0_neighbours wsX0_neighbours) := goodIn_app (goodIn_of _ (by decide +kernel)) ggX0_benches_X0_neighbours
set_option maxRecDepth 20000 in
theorem ggX0_benches_J13_bitCount_95d88 : GoodIn wsX0_benches wsJ13_bitCount_95d88 := goodIn_r _ [14, 15, 16, 17] (by decide +kernel) (by decide +kernel)
set_option maxRecDepth 20000 in
theorem gX0_benches_J13_bitCount_95d88 : GoodIn wsX0_benches (va_wsS RX0 39 yJ13_bitCount_95d88 wsJ13_bitCount_95d88) := goodIn_app (goodIn_of _ (by decide +kernel)) ggX0_benches_J13_bitCount_95d88
theorem dX0_benches_0 : decode cX0_benches 0 = .ok (.lconst 0, 1) := by decide +kernel
theorem dX0_benches_1 : decode cX0_benches 1 = .ok (.lstore_n 2, 1) := by decide +kernel
theorem dX0_benches_2 : decode cX0_benches 2 = .ok (.iconst 0, 1) := by decide +kernel
theorem dX0_benches_3 : decode cX0_benches 3 = .ok (.istore 4, 2) := by decide +kernel
theorem dX0_benches_5 : decode cX0_benches 5 = .ok (.iload 4, 2) := by decide +kernel
theorem dX0_benches_7 : decode cX0_benches 7 = .ok (.bipush 36, 2) := by decide +kernel
theorem dX0_benches_9 : decode cX0_benches 9 = .ok (.if_icmp .ge 44, 3) := by decide +kernel
theorem dX0_benches_12 : decode cX0_benches 12 = .ok (.iload 4, 2) := by decide +kernel
theorem dX0_benches_14 : decode cX0_benches 14 = .ok (.invokestatic 17, 3) := by decide +kernel
theorem dX0_benches_17 : decode cX0_benches 17 = .ok (.lstore 5, 2) := by decide +kernel
theorem dX0_benches_19 : decode cX0_benches 19 = .ok (.lload_n 0, 1) := by decide +kernel
theorem dX0_benches_20 : decode cX0_benches 20 = .ok (.lload 5, 2) := by decide +kernel
theorem dX0_benches_22 : decode cX0_benches 22 = .ok (.land, 1) := by decide +kernel
theorem dX0_benches_23 : decode cX0_benches 23 = .ok (.lconst 0, 1) := by decide +kernel
theorem dX0_benches_24 : decode cX0_benches 24 = .ok (.lcmp, 1) := by decide +kernel
theorem dX0_benches_25 : decode cX0_benches 25 = .ok (.ifCond .eq 22, 3) := by decide +kernel
theorem dX0_benches_28 : decode cX0_benches 28 = .ok (.lload 5, 2) := by decide +kernel
theorem dX0_benches_30 : decode cX0_benches 30 = .ok (.invokestatic 21, 3) := by decide +kernel
theorem dX0_benches_33 : decode cX0_benches 33 = .ok (.lload_n 0, 1) := by decide +kernel
theorem dX0_benches_34 : decode cX0_benches 34 = .ok (.land, 1) := by decide +kernel
theorem dX0_benches_35 : decode cX0_benches 35 = .ok (.invokestatic 39, 3) := by decide +kernel
theorem dX0_benches_38 : decode cX0_benches 38 = .ok (.iconst 3, 1) := by decide +kernel
theorem dX0_benches_39 : decode cX0_benches 39 = .ok (.if_icmp .lt 8, 3) := by decide +kernel
theorem dX0_benches_42 : decode cX0_benches 42 = .ok (.lload_n 2, 1) := by decide +kernel
theorem dX0_benches_43 : decode cX0_benches 43 = .ok (.lload 5, 2) := by decide +kernel
theorem dX0_benches_45 : decode cX0_benches 45 = .ok (.lor, 1) := by decide +kernel
theorem dX0_benches_46 : decode cX0_benches 46 = .ok (.lstore_n 2, 1) := by decide +kernel
theorem dX0_benches_47 : decode cX0_benches 47 = .ok (.iinc 4 1, 3) := by decide +kernel
theorem dX0_benches_50 : decode cX0_benches 50 = .ok (.goto (-45), 3) := by decide +kernel
theorem dX0_benches_53 : decode cX0_benches 53 = .ok (.lload_n 2, 1) := by decide +kernel
theorem dX0_benches_54 : decode cX0_benches 54 = .ok (.lreturn, 1) := by decide +kernel
set_option maxRecDepth 20000 in
theorem ggX1_read_X5_begin : GoodIn wsX1_read wsX5_begin := goodIn_r _ [5, 6, 7, 8, 9, 4, 10, 11, 12, 13, 14, 15, 16, 17, 18, 19, 20, 21, 22, 23, 24, 25, 26, 27, 28, 29, 30, 31, 32, 163, 164, 165, 166, 167, 168] (by decide +kernel) (by decide +kernel)
set_option maxRecDepth 20000 in
theorem gX1_read_X5_begin : GoodIn wsX1_read (wsV RX1 9 RX5 yX5_begin wsX5_begin) := goodIn_app (goodIn_of _ (by decide +kernel)) ggX1_read_X5_begin
set_option maxRecDepth 20000 in
theorem ggX1_read_X1_readItem : GoodIn wsX1_read wsX1_readItem := goodIn_r _ [36, 37, 38, 35, 39, 40, 41, 42, 43, 44, 45, 4, 46, 15, 6, 11, 13, 47, 48, 49, 50, 51, 52, 53, 54, 55, 56, 57, 58, 16, 17, 18, 59, 60, 61, 62, 63, 64, 65, 66, 67, 68, 69, 70, 71, 72, 73, 74, 75, 76, 77, 78, 79, 80, 81, 82, 83, 84, 85, 86, 87, 88, 89, 90, 91, 92, 93, 94, 95, 96, 97, 98, 99, 100, 101, 102, 103, 104, 105, 8, 9, 10, 12, 14, 19, 20, 21, 22, 23, 24, 25, 26, 27, 28, 29, 30, 31, 32, 106, 107, 108, 109, 110, 111, 112, 113, 114, 115, 116, 117, 118, 119, 120, 121, 122, 123, 124, 125, 126, 127, 128, 129, 130, 131, 132, 133, 134, 135, 136, 137, 138, 139, 140, 141, 142, 143, 144, 145, 146, 147, 148, 149, 150, 151, 152, 153, 154, 155, 156, 157, 158, 159, 160, 161, 162, 163, 164, 165, 166, 167, 168, 169, 170, 171, 172, 173, 174, 175, 176, 177, 178, 179, 180] (by decide +kernel) (by decide +kernel)
set_option maxRecDepth 20000 in
theorem gX1_read_X1_readItem : GoodIn wsX1_read (va_wsS RX1 14 yX1_readItem wsX1_readItem) := goodIn_app (goodIn_of _ (by decide +kernel)) ggX1_read_X1_readItem
set_option maxRecDepth 20000 in
theorem ggX1_read_X5_next : GoodIn wsX1_read wsX5_next := goodIn_r _ [10, 6, 11, 12, 13, 14, 15, 16, 17, 18, 19, 20, 4, 21, 22, 23, 24, 25, 26, 27, 28, 29, 30, 31, 32, 163, 164, 165, 166, 167, 168] (by decide +kernel) (by decide +kernel)
set_option maxRecDepth 20000 in
theorem gX1_read_X5_next : GoodIn wsX1_read (wsV RX1 24 RX5 yX5_next wsX5_next) := goodIn_app (goodIn_of _ (by decide +kernel)) ggX1_read_X5_next
theorem dX1_read_0 : decode cX1_read 0 = .ok (.aload_n 0, 1) := by decide +kernel
theorem dX1_read_1 : decode cX1_read 1 = .ok (.invokevirtual 9, 3) := by decide +kernel
theorem dX1_read_4 : decode cX1_read 4 = .ok (.iconst 1, 1) := by decide +kernel
theorem dX1_read_5 : decode cX1_read 5 = .ok (.istore_n 2, 1) := by decide +kernel
theorem dX1_read_6 : decode cX1_read 6 = .ok (.iload_n 2, 1) := by decide +kernel
theorem dX1_read_7 : decode cX1_read 7 = .ok (.bipush 120, 2) := by decide +kernel
theorem dX1_read_9 : decode cX1_read 9 = .ok (.if_icmp .gt 44, 3) := by decide +kernel
theorem dX1_read_12 : decode cX1_read 12 = .ok (.aload_n 0, 1) := by decide +kernel
theorem dX1_read_13 : decode cX1_read 13 = .ok (.aload_n 1, 1) := by decide +kernel
theorem dX1_read_14 : decode cX1_read 14 = .ok (.invokestatic 14, 3) := by decide +kernel
theorem dX1_read_17 : decode cX1_read 17 = .ok (.ifCond .ne 6, 3) := by decide +kernel
theorem dX1_read_20 : decode cX1_read 20 = .ok (.goto 33, 3) := by decide +kernel
theorem dX1_read_23 : decode cX1_read 23 = .ok (.aload_n 0, 1) := by decide +kernel
theorem dX1_read_24 : decode cX1_read 24 = .ok (.getfield 20, 3) := by decide +kernel
theorem dX1_read_27 : decode cX1_read 27 = .ok (.ifCond .ne 5, 3) := by decide +kernel
theorem dX1_read_30 : decode cX1_read 30 = .ok (.iload_n 2, 1) := by decide +kernel
theorem dX1_read_31 : decode cX1_read 31 = .ok (.ireturn, 1) := by decide +kernel
theorem dX1_read_32 : decode cX1_read 32 = .ok (.aload_n 0, 1) := by decide +kernel
theorem dX1_read_33 : decode cX1_read 33 = .ok (.getfield 20, 3) := by decide +kernel
theorem dX1_read_36 : decode cX1_read 36 = .ok (.iconst 3, 1) := by decide +kernel
theorem dX1_read_37 : decode cX1_read 37 = .ok (.if_icmp .eq 6, 3) := by decide +kernel
theorem dX1_read_40 : decode cX1_read 40 = .ok (.goto 13, 3) := by decide +kernel
theorem dX1_read_43 : decode cX1_read 43 = .ok (.aload_n 0, 1) := by decide +kernel
theorem dX1_read_44 : decode cX1_read 44 = .ok (.invokevirtual 24, 3) := by decide +kernel
theorem dX1_read_47 : decode cX1_read 47 = .ok (.iinc 2 1, 3) := by decide +kernel
theorem dX1_read_50 : decode cX1_read 50 = .ok (.goto (-44), 3) := by decide +kernel
theorem dX1_read_53 : decode cX1_read 53 = .ok (.iconst (-1), 1) := by decide +kernel
theorem dX1_read_54 : decode cX1_read 54 = .ok (.aload_n 0, 1) := by decide +kernel
theorem dX1_read_55 : decode cX1_read 55 = .ok (.getfield 27, 3) := by decide +kernel
theorem dX1_read_58 : decode cX1_read 58 = .ok (.isub, 1) := by decide +kernel
theorem dX1_read_59 : decode cX1_read 59 = .ok (.ireturn, 1) := by decide +kernel
set_option maxRecDepth 20000 in
theorem ggX1_readItem_X1_kindOf : GoodIn wsX1_readItem wsX1_kindOf := goodIn_r _ [4, 5, 6, 3, 7, 8, 9, 10, 11, 12, 13, 14, 15, 16, 17, 18, 19, 20, 21, 22, 23, 24, 25, 26, 27, 28, 29, 30, 31, 32, 33, 34, 35, 36, 37, 38, 39, 40, 41, 42, 43, 44, 45, 46, 47, 48, 49, 50, 51, 52, 53, 54, 55, 56, 57, 58, 59, 60, 61, 62, 63, 64, 65, 66, 67, 68, 155, 156, 157, 158, 159, 160] (by decide +kernel) (by decide +kernel)
set_option maxRecDepth 20000 in
theorem gX1_readItem_X1_kindOf : GoodIn wsX1_readItem (va_wsS RX1 30 yX1_kindOf wsX1_kindOf) := goodIn_app (goodIn_of _ (by decide +kernel)) ggX1_readItem_X1_kindOf
set_option maxRecDepth 20000 in
theorem ggX1_readItem_X1_readSeed : GoodIn wsX1_readItem wsX1_readSeed := goodIn_r _ [71, 72, 73, 74, 75, 76, 77, 78, 79, 80, 11, 81, 14, 15, 82, 16, 83, 13, 29, 30, 31, 84, 85, 86, 87, 88, 89, 90, 91, 92, 93, 94, 95, 96, 97, 98, 99, 100, 101, 102, 103, 3, 104, 105, 106, 107, 8, 9, 10, 12, 17, 18, 19, 20, 21, 22, 23, 24, 25, 26, 27, 28, 32, 33, 34, 35, 36, 37, 38, 39, 40, 41, 42, 43, 44, 45, 46, 47, 48, 49, 50, 51, 52, 53, 54, 55, 56, 57, 58, 59, 60, 61, 62, 63, 64, 65, 66, 67, 68, 108, 109, 110, 111, 112, 113, 114, 115, 116, 155, 156, 157, 158, 159, 160, 161, 162, 163, 164, 165, 166, 167, 168, 169, 170, 171, 172] (by decide +kernel) (by decide +kernel)
set_option maxRecDepth 20000 in
theorem gX1_readItem_X1_readSeed : GoodIn wsX1_readItem (va_wsS RX1 34 yX1_readSeed wsX1_readSeed) := goodIn_app (goodIn_of _ (by decide +kernel)) ggX1_readItem_X1_readSeed
set_option maxRecDepth 20000 in
theorem ggX1_readItem_X1_groundOf : GoodIn wsX1_readItem wsX1_groundOf := goodIn_r _ [119, 120, 121, 3, 122, 8, 9, 10, 11, 12, 13, 14, 15, 16, 17, 18, 19, 20, 21, 22, 23, 24, 25, 26, 27, 28, 29, 30, 31, 32, 33, 34, 35, 36, 37, 38, 39, 40, 41, 42, 43, 44, 45, 46, 47, 48, 49, 50, 51, 52, 53, 54, 55, 56, 57, 58, 59, 60, 61, 62, 63, 64, 65, 66, 67, 68, 155, 156, 157, 158, 159, 160] (by decide +kernel) (by decide +kernel)
set_option maxRecDepth 20000 in
theorem gX1_readItem_X1_groundOf : GoodIn wsX1_readItem (va_wsS RX1 38 yX1_groundOf wsX1_groundOf) := goodIn_app (goodIn_of _ (by decide +kernel)) ggX1_readItem_X1_groundOf
set_option maxRecDepth 20000 in
theorem ggX1_readItem_X1_readGround : GoodIn wsX1_readItem wsX1_readGround := goodIn_r _ [125, 78, 79, 80, 11, 81, 14, 15, 82, 16, 83, 13, 29, 30, 31, 84, 85, 86, 87, 88, 89, 90, 91, 92, 93, 94, 95, 96, 97, 98, 99, 100, 101, 126, 127, 128, 75, 129, 130, 131, 132, 133, 134, 135, 136, 137, 155, 156, 157, 158, 159, 160, 161, 162, 163, 164, 165, 166, 167, 168] (by decide +kernel) (by decide +kernel)
set_option maxRecDepth 20000 in
theorem gX1_readItem_X1_readGround : GoodIn wsX1_readItem (va_wsS RX1 41 yX1_readGround wsX1_readGround) := goodIn_app (goodIn_of _ (by decide +kernel)) ggX1_readItem_X1_readGround
set_option maxRecDepth 20000 in
theorem ggX1_readItem_X5_isWord : GoodIn wsX1_readItem wsX5_isWord := goodIn_r _ [12, 13, 14, 15, 16, 17, 18, 19, 20, 21, 22, 23, 24, 25, 26, 27, 28, 29, 30, 31, 32, 33, 34, 35, 36, 37, 38, 39, 40, 41, 42, 43, 44, 45, 46, 47, 48, 49, 50, 51, 52, 53, 54, 55, 56, 57, 58, 59, 60, 61, 62, 63, 64, 65, 66, 67, 68, 155, 156, 157, 158, 159, 160] (by decide +kernel) (by decide +kernel)
set_option maxRecDepth 20000 in
theorem gX1_readItem_X5_isWord : GoodIn wsX1_readItem (wsV RX1 46 RX5 yX5_isWord wsX5_isWord) := goodIn_app (goodIn_of _ (by decide +kernel)) ggX1_readItem_X5_isWord
set_option maxRecDepth 20000 in
theorem ggX1_readItem_X1_readPath : GoodIn wsX1_readItem wsX1_readPath := goodIn_r _ [140, 78, 79, 80, 11, 81, 14, 15, 82, 16, 83, 13, 29, 30, 31, 84, 85, 86, 87, 88, 89, 90, 91, 92, 93, 94, 95, 96, 97, 98, 99, 100, 101, 141, 142, 143, 75, 144, 145, 146, 147, 148, 149, 130, 132, 131, 134, 135, 150, 151, 152, 153, 133, 154, 136, 137, 155, 156, 157, 158, 159, 160, 161, 162, 163, 164, 165, 166, 167, 168] (by decide +kernel) (by decide +kernel)
set_option maxRecDepth 20000 in
theorem gX1_readItem_X1_readPath : GoodIn wsX1_readItem (va_wsS RX1 50 yX1_readPath wsX1_readPath) := goodIn_app (goodIn_of _ (by decide +kernel)) ggX1_readItem_X1_readPath
theorem dX1_readItem_0 : decode cX1_readItem 0 = .ok (.aload_n 0, 1) := by decide +kernel
theorem dX1_readItem_1 : decode cX1_readItem 1 = .ok (.invokestatic 30, 3) := by decide +kernel
theorem dX1_readItem_4 : decode cX1_readItem 4 = .ok (.istore_n 2, 1) := by decide +kernel
theorem dX1_readItem_5 : decode cX1_readItem 5 = .ok (.iload_n 2, 1) := by decide +kernel
theorem dX1_readItem_6 : decode cX1_readItem 6 = .ok (.ifCond .lt 10, 3) := by decide +kernel
theorem dX1_readItem_9 : decode cX1_readItem 9 = .ok (.aload_n 0, 1) := by decide +kernel
theorem dX1_readItem_10 : decode cX1_readItem 10 = .ok (.aload_n 1, 1) := by decide +kernel
theorem dX1_readItem_11 : decode cX1_readItem 11 = .ok (.iload_n 2, 1) := by decide +kernel
theorem dX1_readItem_12 : decode cX1_readItem 12 = .ok (.invokestatic 34, 3) := by decide +kernel
theorem dX1_readItem_15 : decode cX1_readItem 15 = .ok (.ireturn, 1) := by decide +kernel
theorem dX1_readItem_16 : decode cX1_readItem 16 = .ok (.aload_n 0, 1) := by decide +kernel
theorem dX1_readItem_17 : decode cX1_readItem 17 = .ok (.invokestatic 38, 3) := by decide +kernel
theorem dX1_readItem_20 : decode cX1_readItem 20 = .ok (.istore_n 3, 1) := by decide +kernel
theorem dX1_readItem_21 : decode cX1_readItem 21 = .ok (.iload_n 3, 1) := by decide +kernel
theorem dX1_readItem_22 : decode cX1_readItem 22 = .ok (.ifCond .lt 10, 3) := by decide +kernel
theorem dX1_readItem_25 : decode cX1_readItem 25 = .ok (.aload_n 0, 1) := by decide +kernel
theorem dX1_readItem_26 : decode cX1_readItem 26 = .ok (.aload_n 1, 1) := by decide +kernel
theorem dX1_readItem_27 : decode cX1_readItem 27 = .ok (.iload_n 3, 1) := by decide +kernel
theorem dX1_readItem_28 : decode cX1_readItem 28 = .ok (.invokestatic 41, 3) := by decide +kernel
theorem dX1_readItem_31 : decode cX1_readItem 31 = .ok (.ireturn, 1) := by decide +kernel
theorem dX1_readItem_32 : decode cX1_readItem 32 = .ok (.aload_n 0, 1) := by decide +kernel
theorem dX1_readItem_33 : decode cX1_readItem 33 = .ok (.ldc 44, 2) := by decide +kernel
theorem dX1_readItem_35 : decode cX1_readItem 35 = .ok (.invokevirtual 46, 3) := by decide +kernel
theorem dX1_readItem_38 : decode cX1_readItem 38 = .ok (.ifCond .eq 15, 3) := by decide +kernel
theorem dX1_readItem_41 : decode cX1_readItem 41 = .ok (.aload_n 0, 1) := by decide +kernel
theorem dX1_readItem_42 : decode cX1_readItem 42 = .ok (.aload_n 1, 1) := by decide +kernel
theorem dX1_readItem_43 : decode cX1_readItem 43 = .ok (.invokestatic 50, 3) := by decide +kernel
theorem dX1_readItem_46 : decode cX1_readItem 46 = .ok (.ifCond .eq 7, 3) := by decide +kernel
theorem dX1_readItem_49 : decode cX1_readItem 49 = .ok (.iconst 1, 1) := by decide +kernel
theorem dX1_readItem_50 : decode cX1_readItem 50 = .ok (.goto 4, 3) := by decide +kernel
theorem dX1_readItem_53 : decode cX1_readItem 53 = .ok (.iconst 0, 1) := by decide +kernel
theorem dX1_readItem_54 : decode cX1_readItem 54 = .ok (.ireturn, 1) := by decide +kernel
set_option maxRecDepth 20000 in
theorem ggX1_readSeed_X2_isFull : GoodIn wsX1_readSeed wsX2_isFull := goodIn_r _ [5, 6, 114, 115, 116, 117, 118, 119, 120, 121] (by decide +kernel) (by decide +kernel)
set_option maxRecDepth 20000 in
theorem gX1_readSeed_X2_isFull : GoodIn wsX1_readSeed (wsV RX1 53 RX2 yX2_isFull wsX2_isFull) := goodIn_app (goodIn_of _ (by decide +kernel)) ggX1_readSeed_X2_isFull
set_option maxRecDepth 20000 in
theorem ggX1_readSeed_X5_next : GoodIn wsX1_readSeed wsX5_next := goodIn_r _ [11, 12, 13, 14, 15, 16, 17, 18, 19, 20, 21, 22, 10, 23, 24, 25, 26, 27, 28, 29, 30, 31, 32, 33, 34, 108, 109, 110, 111, 112, 113] (by decide +kernel) (by decide +kernel)
set_option maxRecDepth 20000 in
theorem gX1_readSeed_X5_next : GoodIn wsX1_readSeed (wsV RX1 24 RX5 yX5_next wsX5_next) := goodIn_app (goodIn_of _ (by decide +kernel)) ggX1_readSeed_X5_next
set_option maxRecDepth 20000 in
theorem ggX1_readSeed_X5_isNumber : GoodIn wsX1_readSeed wsX5_isNumber := goodIn_r _ [38, 17, 16, 108, 109, 110, 111, 112, 113] (by decide +kernel) (by decide +kernel)
set_option maxRecDepth 20000 in
theorem gX1_readSeed_X5_isNumber : GoodIn wsX1_readSeed (wsV RX1 59 RX5 yX5_isNumber wsX5_isNumber) := goodIn_app (goodIn_of _ (by decide +kernel)) ggX1_readSeed_X5_isNumber
set_option maxRecDepth 20000 in
theorem ggX1_readSeed_X1_headingOf : GoodIn wsX1_readSeed wsX1_headingOf := goodIn_r _ [42, 43, 44, 41, 45, 46, 47, 48, 10, 49, 17, 12, 13, 15, 50, 51, 52, 53, 54, 55, 56, 57, 58, 59, 60, 61, 18, 19, 20, 62, 63, 64, 65, 66, 67, 68, 69, 70, 71, 72, 73, 74, 75, 76, 77, 78, 79, 80, 81, 82, 83, 84, 85, 86, 87, 88, 89, 90, 91, 92, 93, 94, 95, 96, 97, 98, 108, 109, 110, 111, 112, 113] (by decide +kernel) (by decide +kernel)
set_option maxRecDepth 20000 in
theorem gX1_readSeed_X1_headingOf : GoodIn wsX1_readSeed (va_wsS RX1 66 yX1_headingOf wsX1_headingOf) := goodIn_app (goodIn_of _ (by decide +kernel)) ggX1_readSeed_X1_headingOf
set_option maxRecDepth 20000 in
theorem ggX1_readSeed_X5_isWord : GoodIn wsX1_readSeed wsX5_isWord := goodIn_r _ [49, 17, 12, 13, 15, 50, 51, 52, 53, 54, 55, 56, 57, 58, 59, 60, 61, 18, 19, 20, 62, 63, 64, 65, 66, 67, 68, 69, 70, 71, 72, 73, 74, 75, 76, 77, 78, 79, 80, 81, 82, 83, 84, 85, 86, 87, 88, 89, 90, 91, 92, 93, 94, 95, 96, 97, 98, 108, 109, 110, 111, 112, 113] (by decide +kernel) (by decide +kernel)
set_option maxRecDepth 20000 in
theorem gX1_readSeed_X5_isWord : GoodIn wsX1_readSeed (wsV RX1 46 RX5 yX5_isWord wsX5_isWord) := goodIn_app (goodIn_of _ (by decide +kernel)) ggX1_readSeed_X5_isWord
set_option maxRecDepth 20000 in
theorem ggX1_readSeed_X2_plant : GoodIn wsX1_readSeed wsX2_plant := goodIn_r _ [102, 6, 103, 104, 105, 4, 106, 107, 114, 115, 116, 117, 118, 119, 120, 121, 122, 123, 124, 125] (by decide +kernel) (by decide +kernel)
set_option maxRecDepth 20000 in
theorem gX1_readSeed_X2_plant : GoodIn wsX1_readSeed (wsV RX1 71 RX2 yX2_plant wsX2_plant) := goodIn_app (goodIn_of _ (by decide +kernel)) ggX1_readSeed_X2_plant
theorem dX1_readSeed_0 : decode cX1_readSeed 0 = .ok (.aload_n 1, 1) := by decide +kernel
theorem dX1_readSeed_1 : decode cX1_readSeed 1 = .ok (.invokevirtual 53, 3) := by decide +kernel
theorem dX1_readSeed_4 : decode cX1_readSeed 4 = .ok (.ifCond .eq 5, 3) := by decide +kernel
theorem dX1_readSeed_7 : decode cX1_readSeed 7 = .ok (.iconst 0, 1) := by decide +kernel
theorem dX1_readSeed_8 : decode cX1_readSeed 8 = .ok (.ireturn, 1) := by decide +kernel
theorem dX1_readSeed_9 : decode cX1_readSeed 9 = .ok (.aload_n 0, 1) := by decide +kernel
theorem dX1_readSeed_10 : decode cX1_readSeed 10 = .ok (.invokevirtual 24, 3) := by decide +kernel
theorem dX1_readSeed_13 : decode cX1_readSeed 13 = .ok (.aload_n 0, 1) := by decide +kernel
theorem dX1_readSeed_14 : decode cX1_readSeed 14 = .ok (.bipush 35, 2) := by decide +kernel
theorem dX1_readSeed_16 : decode cX1_readSeed 16 = .ok (.invokevirtual 59, 3) := by decide +kernel
theorem dX1_readSeed_19 : decode cX1_readSeed 19 = .ok (.ifCond .ne 5, 3) := by decide +kernel
theorem dX1_readSeed_22 : decode cX1_readSeed 22 = .ok (.iconst 0, 1) := by decide +kernel
theorem dX1_readSeed_23 : decode cX1_readSeed 23 = .ok (.ireturn, 1) := by decide +kernel
theorem dX1_readSeed_24 : decode cX1_readSeed 24 = .ok (.aload_n 0, 1) := by decide +kernel
theorem dX1_readSeed_25 : decode cX1_readSeed 25 = .ok (.getfield 63, 3) := by decide +kernel
theorem dX1_readSeed_28 : decode cX1_readSeed 28 = .ok (.istore_n 3, 1) := by decide +kernel
theorem dX1_readSeed_29 : decode cX1_readSeed 29 = .ok (.aload_n 0, 1) := by decide +kernel
theorem dX1_readSeed_30 : decode cX1_readSeed 30 = .ok (.invokevirtual 24, 3) := by decide +kernel
theorem dX1_readSeed_33 : decode cX1_readSeed 33 = .ok (.aload_n 0, 1) := by decide +kernel
theorem dX1_readSeed_34 : decode cX1_readSeed 34 = .ok (.invokestatic 66, 3) := by decide +kernel
theorem dX1_readSeed_37 : decode cX1_readSeed 37 = .ok (.istore 4, 2) := by decide +kernel
theorem dX1_readSeed_39 : decode cX1_readSeed 39 = .ok (.iload 4, 2) := by decide +kernel
theorem dX1_readSeed_41 : decode cX1_readSeed 41 = .ok (.ifCond .lt 7, 3) := by decide +kernel
theorem dX1_readSeed_44 : decode cX1_readSeed 44 = .ok (.aload_n 0, 1) := by decide +kernel
theorem dX1_readSeed_45 : decode cX1_readSeed 45 = .ok (.invokevirtual 24, 3) := by decide +kernel
theorem dX1_readSeed_48 : decode cX1_readSeed 48 = .ok (.iconst 0, 1) := by decide +kernel
theorem dX1_readSeed_49 : decode cX1_readSeed 49 = .ok (.istore 5, 2) := by decide +kernel
theorem dX1_readSeed_51 : decode cX1_readSeed 51 = .ok (.aload_n 0, 1) := by decide +kernel
theorem dX1_readSeed_52 : decode cX1_readSeed 52 = .ok (.ldc 69, 2) := by decide +kernel
theorem dX1_readSeed_54 : decode cX1_readSeed 54 = .ok (.invokevirtual 46, 3) := by decide +kernel
theorem dX1_readSeed_57 : decode cX1_readSeed 57 = .ok (.ifCond .eq 29, 3) := by decide +kernel
theorem dX1_readSeed_60 : decode cX1_readSeed 60 = .ok (.aload_n 0, 1) := by decide +kernel
theorem dX1_readSeed_61 : decode cX1_readSeed 61 = .ok (.invokevirtual 24, 3) := by decide +kernel
theorem dX1_readSeed_64 : decode cX1_readSeed 64 = .ok (.aload_n 0, 1) := by decide +kernel
theorem dX1_readSeed_65 : decode cX1_readSeed 65 = .ok (.sipush 999, 3) := by decide +kernel
theorem dX1_readSeed_68 : decode cX1_readSeed 68 = .ok (.invokevirtual 59, 3) := by decide +kernel
theorem dX1_readSeed_71 : decode cX1_readSeed 71 = .ok (.ifCond .ne 5, 3) := by decide +kernel
theorem dX1_readSeed_74 : decode cX1_readSeed 74 = .ok (.iconst 0, 1) := by decide +kernel
theorem dX1_readSeed_75 : decode cX1_readSeed 75 = .ok (.ireturn, 1) := by decide +kernel
theorem dX1_readSeed_76 : decode cX1_readSeed 76 = .ok (.aload_n 0, 1) := by decide +kernel
theorem dX1_readSeed_77 : decode cX1_readSeed 77 = .ok (.getfield 63, 3) := by decide +kernel
theorem dX1_readSeed_80 : decode cX1_readSeed 80 = .ok (.istore 5, 2) := by decide +kernel
theorem dX1_readSeed_82 : decode cX1_readSeed 82 = .ok (.aload_n 0, 1) := by decide +kernel
theorem dX1_readSeed_83 : decode cX1_readSeed 83 = .ok (.invokevirtual 24, 3) := by decide +kernel
theorem dX1_readSeed_86 : decode cX1_readSeed 86 = .ok (.aload_n 1, 1) := by decide +kernel
theorem dX1_readSeed_87 : decode cX1_readSeed 87 = .ok (.iload_n 2, 1) := by decide +kernel
theorem dX1_readSeed_88 : decode cX1_readSeed 88 = .ok (.iload_n 3, 1) := by decide +kernel
theorem dX1_readSeed_89 : decode cX1_readSeed 89 = .ok (.iload 4, 2) := by decide +kernel
theorem dX1_readSeed_91 : decode cX1_readSeed 91 = .ok (.ifCond .ge 7, 3) := by decide +kernel
theorem dX1_readSeed_94 : decode cX1_readSeed 94 = .ok (.iconst 0, 1) := by decide +kernel
theorem dX1_readSeed_95 : decode cX1_readSeed 95 = .ok (.goto 5, 3) := by decide +kernel
theorem dX1_readSeed_98 : decode cX1_readSeed 98 = .ok (.iload 4, 2) := by decide +kernel
theorem dX1_readSeed_100 : decode cX1_readSeed 100 = .ok (.iload 5, 2) := by decide +kernel
theorem dX1_readSeed_102 : decode cX1_readSeed 102 = .ok (.invokevirtual 71, 3) := by decide +kernel
theorem dX1_readSeed_105 : decode cX1_readSeed 105 = .ok (.pop, 1) := by decide +kernel
theorem dX1_readSeed_106 : decode cX1_readSeed 106 = .ok (.iconst 1, 1) := by decide +kernel
theorem dX1_readSeed_107 : decode cX1_readSeed 107 = .ok (.ireturn, 1) := by decide +kernel
set_option maxRecDepth 20000 in
theorem ggX1_readGround_X5_next : GoodIn wsX1_readGround wsX5_next := goodIn_r _ [5, 6, 7, 8, 9, 10, 11, 12, 13, 14, 15, 16, 4, 17, 18, 19, 20, 21, 22, 23, 24, 25, 26, 27, 28, 46, 47, 48, 49, 50, 51] (by decide +kernel) (by decide +kernel)
set_option maxRecDepth 20000 in
theorem gX1_readGround_X5_next : GoodIn wsX1_readGround (wsV RX1 24 RX5 yX5_next wsX5_next) := goodIn_app (goodIn_of _ (by decide +kernel)) ggX1_readGround_X5_next
set_option maxRecDepth 20000 in
theorem ggX1_readGround_X5_isNumber : GoodIn wsX1_readGround wsX5_isNumber := goodIn_r _ [32, 11, 10, 46, 47, 48, 49, 50, 51] (by decide +kernel) (by decide +kernel)
set_option maxRecDepth 20000 in
theorem gX1_readGround_X5_isNumber : GoodIn wsX1_readGround (wsV RX1 59 RX5 yX5_isNumber wsX5_isNumber) := goodIn_app (goodIn_of _ (by decide +kernel)) ggX1_readGround_X5_isNumber
set_option maxRecDepth 20000 in
theorem ggX1_readGround_X2_becomeGround : GoodIn wsX1_readGround wsX2_becomeGround := goodIn_r _ [37, 38, 39, 40, 41, 42, 13, 43, 44, 45, 52, 53, 54, 55, 56, 57, 58, 59] (by decide +kernel) (by decide +kernel)
set_option maxRecDepth 20000 in
theorem gX1_readGround_X2_becomeGround : GoodIn wsX1_readGround (wsV RX1 75 RX2 yX2_becomeGround wsX2_becomeGround) := goodIn_app (goodIn_of _ (by decide +kernel)) ggX1_readGround_X2_becomeGround
theorem dX1_readGround_0 : decode cX1_readGround 0 = .ok (.aload_n 0, 1) := by decide +kernel
theorem dX1_readGround_1 : decode cX1_readGround 1 = .ok (.invokevirtual 24, 3) := by decide +kernel
theorem dX1_readGround_4 : decode cX1_readGround 4 = .ok (.aload_n 0, 1) := by decide +kernel
theorem dX1_readGround_5 : decode cX1_readGround 5 = .ok (.bipush 35, 2) := by decide +kernel
theorem dX1_readGround_7 : decode cX1_readGround 7 = .ok (.invokevirtual 59, 3) := by decide +kernel
theorem dX1_readGround_10 : decode cX1_readGround 10 = .ok (.ifCond .ne 5, 3) := by decide +kernel
theorem dX1_readGround_13 : decode cX1_readGround 13 = .ok (.iconst 0, 1) := by decide +kernel
theorem dX1_readGround_14 : decode cX1_readGround 14 = .ok (.ireturn, 1) := by decide +kernel
theorem dX1_readGround_15 : decode cX1_readGround 15 = .ok (.aload_n 1, 1) := by decide +kernel
theorem dX1_readGround_16 : decode cX1_readGround 16 = .ok (.aload_n 0, 1) := by decide +kernel
theorem dX1_readGround_17 : decode cX1_readGround 17 = .ok (.getfield 63, 3) := by decide +kernel
theorem dX1_readGround_20 : decode cX1_readGround 20 = .ok (.iload_n 2, 1) := by decide +kernel
theorem dX1_readGround_21 : decode cX1_readGround 21 = .ok (.invokevirtual 75, 3) := by decide +kernel
theorem dX1_readGround_24 : decode cX1_readGround 24 = .ok (.aload_n 0, 1) := by decide +kernel
theorem dX1_readGround_25 : decode cX1_readGround 25 = .ok (.invokevirtual 24, 3) := by decide +kernel
theorem dX1_readGround_28 : decode cX1_readGround 28 = .ok (.iconst 1, 1) := by decide +kernel
theorem dX1_readGround_29 : decode cX1_readGround 29 = .ok (.ireturn, 1) := by decide +kernel
set_option maxRecDepth 20000 in
theorem ggX1_readPath_X5_next : GoodIn wsX1_readPath wsX5_next := goodIn_r _ [5, 6, 7, 8, 9, 10, 11, 12, 13, 14, 15, 16, 4, 17, 18, 19, 20, 21, 22, 23, 24, 25, 26, 27, 28, 56, 57, 58, 59, 60, 61] (by decide +kernel) (by decide +kernel)
set_option maxRecDepth 20000 in
theorem gX1_readPath_X5_next : GoodIn wsX1_readPath (wsV RX1 24 RX5 yX5_next wsX5_next) := goodIn_app (goodIn_of _ (by decide +kernel)) ggX1_readPath_X5_next
set_option maxRecDepth 20000 in
theorem ggX1_readPath_X5_isNumber : GoodIn wsX1_readPath wsX5_isNumber := goodIn_r _ [32, 11, 10, 56, 57, 58, 59, 60, 61] (by decide +kernel) (by decide +kernel)
set_option maxRecDepth 20000 in
theorem gX1_readPath_X5_isNumber : GoodIn wsX1_readPath (wsV RX1 59 RX5 yX5_isNumber wsX5_isNumber) := goodIn_app (goodIn_of _ (by decide +kernel)) ggX1_readPath_X5_isNumber
set_option maxRecDepth 20000 in
theorem ggX1_readPath_X2_isGrass : GoodIn wsX1_readPath wsX2_isGrass := goodIn_r _ [37, 38, 39, 40, 36, 41, 42, 43, 44, 45, 46, 13, 47, 62, 63, 64, 65, 66, 67, 68, 69] (by decide +kernel) (by decide +kernel)
set_option maxRecDepth 20000 in
theorem gX1_readPath_X2_isGrass : GoodIn wsX1_readPath (wsV RX1 79 RX2 yX2_isGrass wsX2_isGrass) := goodIn_app (goodIn_of _ (by decide +kernel)) ggX1_readPath_X2_isGrass
set_option maxRecDepth 20000 in
theorem ggX1_readPath_X2_becomePath : GoodIn wsX1_readPath wsX2_becomePath := goodIn_r _ [51, 52, 53, 34, 35, 36, 37, 38, 39, 40, 41, 42, 43, 44, 45, 46, 13, 47, 54, 55, 62, 63, 64, 65, 66, 67, 68, 69] (by decide +kernel) (by decide +kernel)
set_option maxRecDepth 20000 in
theorem gX1_readPath_X2_becomePath : GoodIn wsX1_readPath (wsV RX1 82 RX2 yX2_becomePath wsX2_becomePath) := goodIn_app (goodIn_of _ (by decide +kernel)) ggX1_readPath_X2_becomePath
theorem dX1_readPath_0 : decode cX1_readPath 0 = .ok (.aload_n 0, 1) := by decide +kernel
theorem dX1_readPath_1 : decode cX1_readPath 1 = .ok (.invokevirtual 24, 3) := by decide +kernel
theorem dX1_readPath_4 : decode cX1_readPath 4 = .ok (.aload_n 0, 1) := by decide +kernel
theorem dX1_readPath_5 : decode cX1_readPath 5 = .ok (.bipush 35, 2) := by decide +kernel
theorem dX1_readPath_7 : decode cX1_readPath 7 = .ok (.invokevirtual 59, 3) := by decide +kernel
theorem dX1_readPath_10 : decode cX1_readPath 10 = .ok (.ifCond .eq 14, 3) := by decide +kernel
theorem dX1_readPath_13 : decode cX1_readPath 13 = .ok (.aload_n 1, 1) := by decide +kernel
theorem dX1_readPath_14 : decode cX1_readPath 14 = .ok (.aload_n 0, 1) := by decide +kernel
theorem dX1_readPath_15 : decode cX1_readPath 15 = .ok (.getfield 63, 3) := by decide +kernel
theorem dX1_readPath_18 : decode cX1_readPath 18 = .ok (.invokevirtual 79, 3) := by decide +kernel
theorem dX1_readPath_21 : decode cX1_readPath 21 = .ok (.ifCond .ne 5, 3) := by decide +kernel
theorem dX1_readPath_24 : decode cX1_readPath 24 = .ok (.iconst 0, 1) := by decide +kernel
theorem dX1_readPath_25 : decode cX1_readPath 25 = .ok (.ireturn, 1) := by decide +kernel
theorem dX1_readPath_26 : decode cX1_readPath 26 = .ok (.aload_n 0, 1) := by decide +kernel
theorem dX1_readPath_27 : decode cX1_readPath 27 = .ok (.getfield 63, 3) := by decide +kernel
theorem dX1_readPath_30 : decode cX1_readPath 30 = .ok (.istore_n 2, 1) := by decide +kernel
theorem dX1_readPath_31 : decode cX1_readPath 31 = .ok (.aload_n 0, 1) := by decide +kernel
theorem dX1_readPath_32 : decode cX1_readPath 32 = .ok (.invokevirtual 24, 3) := by decide +kernel
theorem dX1_readPath_35 : decode cX1_readPath 35 = .ok (.aload_n 0, 1) := by decide +kernel
theorem dX1_readPath_36 : decode cX1_readPath 36 = .ok (.bipush 99, 2) := by decide +kernel
theorem dX1_readPath_38 : decode cX1_readPath 38 = .ok (.invokevirtual 59, 3) := by decide +kernel
theorem dX1_readPath_41 : decode cX1_readPath 41 = .ok (.ifCond .ne 5, 3) := by decide +kernel
theorem dX1_readPath_44 : decode cX1_readPath 44 = .ok (.iconst 0, 1) := by decide +kernel
theorem dX1_readPath_45 : decode cX1_readPath 45 = .ok (.ireturn, 1) := by decide +kernel
theorem dX1_readPath_46 : decode cX1_readPath 46 = .ok (.aload_n 1, 1) := by decide +kernel
theorem dX1_readPath_47 : decode cX1_readPath 47 = .ok (.iload_n 2, 1) := by decide +kernel
theorem dX1_readPath_48 : decode cX1_readPath 48 = .ok (.aload_n 0, 1) := by decide +kernel
theorem dX1_readPath_49 : decode cX1_readPath 49 = .ok (.getfield 63, 3) := by decide +kernel
theorem dX1_readPath_52 : decode cX1_readPath 52 = .ok (.invokevirtual 82, 3) := by decide +kernel
theorem dX1_readPath_55 : decode cX1_readPath 55 = .ok (.aload_n 0, 1) := by decide +kernel
theorem dX1_readPath_56 : decode cX1_readPath 56 = .ok (.invokevirtual 24, 3) := by decide +kernel
theorem dX1_readPath_59 : decode cX1_readPath 59 = .ok (.iconst 1, 1) := by decide +kernel
theorem dX1_readPath_60 : decode cX1_readPath 60 = .ok (.ireturn, 1) := by decide +kernel
set_option maxRecDepth 20000 in
theorem ggX1_kindOf_X1_nameOfKind : GoodIn wsX1_kindOf wsX1_nameOfKind := goodIn_r _ [4] (by decide +kernel) (by decide +kernel)
set_option maxRecDepth 20000 in
theorem gX1_kindOf_X1_nameOfKind : GoodIn wsX1_kindOf (va_wsS RX1 85 yX1_nameOfKind wsX1_nameOfKind) := goodIn_app (goodIn_of _ (by decide +kernel)) ggX1_kindOf_X1_nameOfKind
set_option maxRecDepth 20000 in
theorem ggX1_kindOf_X5_isWord : GoodIn wsX1_kindOf wsX5_isWord := goodIn_r _ [9, 10, 11, 12, 13, 14, 15, 16, 17, 18, 19, 20, 21, 22, 23, 24, 25, 26, 27, 28, 29, 30, 31, 32, 33, 34, 35, 36, 37, 38, 39, 40, 41, 42, 43, 44, 45, 46, 47, 48, 49, 50, 51, 52, 53, 54, 55, 56, 57, 58, 59, 60, 61, 62, 63, 64, 65, 66, 67, 68, 69, 70, 71] (by decide +kernel) (by decide +kernel)
set_option maxRecDepth 20000 in
theorem gX1_kindOf_X5_isWord : GoodIn wsX1_kindOf (wsV RX1 46 RX5 yX5_isWord wsX5_isWord) := goodIn_app (goodIn_of _ (by decide +kernel)) ggX1_kindOf_X5_isWord
theorem dX1_kindOf_0 : decode cX1_kindOf 0 = .ok (.iconst 0, 1) := by decide +kernel
theorem dX1_kindOf_1 : decode cX1_kindOf 1 = .ok (.istore_n 1, 1) := by decide +kernel
theorem dX1_kindOf_2 : decode cX1_kindOf 2 = .ok (.iload_n 1, 1) := by decide +kernel
theorem dX1_kindOf_3 : decode cX1_kindOf 3 = .ok (.bipush 7, 2) := by decide +kernel
theorem dX1_kindOf_5 : decode cX1_kindOf 5 = .ok (.if_icmp .ge 22, 3) := by decide +kernel
theorem dX1_kindOf_8 : decode cX1_kindOf 8 = .ok (.aload_n 0, 1) := by decide +kernel
theorem dX1_kindOf_9 : decode cX1_kindOf 9 = .ok (.iload_n 1, 1) := by decide +kernel
theorem dX1_kindOf_10 : decode cX1_kindOf 10 = .ok (.invokestatic 85, 3) := by decide +kernel
theorem dX1_kindOf_13 : decode cX1_kindOf 13 = .ok (.invokevirtual 46, 3) := by decide +kernel
theorem dX1_kindOf_16 : decode cX1_kindOf 16 = .ok (.ifCond .eq 5, 3) := by decide +kernel
theorem dX1_kindOf_19 : decode cX1_kindOf 19 = .ok (.iload_n 1, 1) := by decide +kernel
theorem dX1_kindOf_20 : decode cX1_kindOf 20 = .ok (.ireturn, 1) := by decide +kernel
theorem dX1_kindOf_21 : decode cX1_kindOf 21 = .ok (.iinc 1 1, 3) := by decide +kernel
theorem dX1_kindOf_24 : decode cX1_kindOf 24 = .ok (.goto (-22), 3) := by decide +kernel
theorem dX1_kindOf_27 : decode cX1_kindOf 27 = .ok (.iconst (-1), 1) := by decide +kernel
theorem dX1_kindOf_28 : decode cX1_kindOf 28 = .ok (.ireturn, 1) := by decide +kernel
set_option maxRecDepth 20000 in
theorem ggX1_groundOf_X1_nameOfGround : GoodIn wsX1_groundOf wsX1_nameOfGround := goodIn_r _ [4] (by decide +kernel) (by decide +kernel)
set_option maxRecDepth 20000 in
theorem gX1_groundOf_X1_nameOfGround : GoodIn wsX1_groundOf (va_wsS RX1 89 yX1_nameOfGround wsX1_nameOfGround) := goodIn_app (goodIn_of _ (by decide +kernel)) ggX1_groundOf_X1_nameOfGround
set_option maxRecDepth 20000 in
theorem ggX1_groundOf_X5_isWord : GoodIn wsX1_groundOf wsX5_isWord := goodIn_r _ [9, 10, 11, 12, 13, 14, 15, 16, 17, 18, 19, 20, 21, 22, 23, 24, 25, 26, 27, 28, 29, 30, 31, 32, 33, 34, 35, 36, 37, 38, 39, 40, 41, 42, 43, 44, 45, 46, 47, 48, 49, 50, 51, 52, 53, 54, 55, 56, 57, 58, 59, 60, 61, 62, 63, 64, 65, 66, 67, 68, 69, 70, 71] (by decide +kernel) (by decide +kernel)
set_option maxRecDepth 20000 in
theorem gX1_groundOf_X5_isWord : GoodIn wsX1_groundOf (wsV RX1 46 RX5 yX5_isWord wsX5_isWord) := goodIn_app (goodIn_of _ (by decide +kernel)) ggX1_groundOf_X5_isWord
theorem dX1_groundOf_0 : decode cX1_groundOf 0 = .ok (.iconst 0, 1) := by decide +kernel
theorem dX1_groundOf_1 : decode cX1_groundOf 1 = .ok (.istore_n 1, 1) := by decide +kernel
theorem dX1_groundOf_2 : decode cX1_groundOf 2 = .ok (.iload_n 1, 1) := by decide +kernel
theorem dX1_groundOf_3 : decode cX1_groundOf 3 = .ok (.iconst 2, 1) := by decide +kernel
theorem dX1_groundOf_4 : decode cX1_groundOf 4 = .ok (.if_icmp .gt 22, 3) := by decide +kernel
theorem dX1_groundOf_7 : decode cX1_groundOf 7 = .ok (.aload_n 0, 1) := by decide +kernel
theorem dX1_groundOf_8 : decode cX1_groundOf 8 = .ok (.iload_n 1, 1) := by decide +kernel
theorem dX1_groundOf_9 : decode cX1_groundOf 9 = .ok (.invokestatic 89, 3) := by decide +kernel
theorem dX1_groundOf_12 : decode cX1_groundOf 12 = .ok (.invokevirtual 46, 3) := by decide +kernel
theorem dX1_groundOf_15 : decode cX1_groundOf 15 = .ok (.ifCond .eq 5, 3) := by decide +kernel
theorem dX1_groundOf_18 : decode cX1_groundOf 18 = .ok (.iload_n 1, 1) := by decide +kernel
theorem dX1_groundOf_19 : decode cX1_groundOf 19 = .ok (.ireturn, 1) := by decide +kernel
theorem dX1_groundOf_20 : decode cX1_groundOf 20 = .ok (.iinc 1 1, 3) := by decide +kernel
theorem dX1_groundOf_23 : decode cX1_groundOf 23 = .ok (.goto (-21), 3) := by decide +kernel
theorem dX1_groundOf_26 : decode cX1_groundOf 26 = .ok (.iconst (-1), 1) := by decide +kernel
theorem dX1_groundOf_27 : decode cX1_groundOf 27 = .ok (.ireturn, 1) := by decide +kernel
set_option maxRecDepth 20000 in
theorem ggX1_headingOf_X1_nameOfHeading : GoodIn wsX1_headingOf wsX1_nameOfHeading := goodIn_r _ [4] (by decide +kernel) (by decide +kernel)
set_option maxRecDepth 20000 in
theorem gX1_headingOf_X1_nameOfHeading : GoodIn wsX1_headingOf (va_wsS RX1 92 yX1_nameOfHeading wsX1_nameOfHeading) := goodIn_app (goodIn_of _ (by decide +kernel)) ggX1_headingOf_X1_nameOfHeading
set_option maxRecDepth 20000 in
theorem ggX1_headingOf_X5_isWord : GoodIn wsX1_headingOf wsX5_isWord := goodIn_r _ [9, 10, 11, 12, 13, 14, 15, 16, 17, 18, 19, 20, 21, 22, 23, 24, 25, 26, 27, 28, 29, 30, 31, 32, 33, 34, 35, 36, 37, 38, 39, 40, 41, 42, 43, 44, 45, 46, 47, 48, 49, 50, 51, 52, 53, 54, 55, 56, 57, 58, 59, 60, 61, 62, 63, 64, 65, 66, 67, 68, 69, 70, 71] (by decide +kernel) (by decide +kernel)
set_option maxRecDepth 20000 in
theorem gX1_headingOf_X5_isWord : GoodIn wsX1_headingOf (wsV RX1 46 RX5 yX5_isWord wsX5_isWord) := goodIn_app (goodIn_of _ (by decide +kernel)) ggX1_headingOf_X5_isWord
theorem dX1_headingOf_0 : decode cX1_headingOf 0 = .ok (.iconst 0, 1) := by decide +kernel
theorem dX1_headingOf_1 : decode cX1_headingOf 1 = .ok (.istore_n 1, 1) := by decide +kernel
theorem dX1_headingOf_2 : decode cX1_headingOf 2 = .ok (.iload_n 1, 1) := by decide +kernel
theorem dX1_headingOf_3 : decode cX1_headingOf 3 = .ok (.iconst 4, 1) := by decide +kernel
theorem dX1_headingOf_4 : decode cX1_headingOf 4 = .ok (.if_icmp .ge 22, 3) := by decide +kernel
theorem dX1_headingOf_7 : decode cX1_headingOf 7 = .ok (.aload_n 0, 1) := by decide +kernel
theorem dX1_headingOf_8 : decode cX1_headingOf 8 = .ok (.iload_n 1, 1) := by decide +kernel
theorem dX1_headingOf_9 : decode cX1_headingOf 9 = .ok (.invokestatic 92, 3) := by decide +kernel
theorem dX1_headingOf_12 : decode cX1_headingOf 12 = .ok (.invokevirtual 46, 3) := by decide +kernel
theorem dX1_headingOf_15 : decode cX1_headingOf 15 = .ok (.ifCond .eq 5, 3) := by decide +kernel
theorem dX1_headingOf_18 : decode cX1_headingOf 18 = .ok (.iload_n 1, 1) := by decide +kernel
theorem dX1_headingOf_19 : decode cX1_headingOf 19 = .ok (.ireturn, 1) := by decide +kernel
theorem dX1_headingOf_20 : decode cX1_headingOf 20 = .ok (.iinc 1 1, 3) := by decide +kernel
theorem dX1_headingOf_23 : decode cX1_headingOf 23 = .ok (.goto (-21), 3) := by decide +kernel
theorem dX1_headingOf_26 : decode cX1_headingOf 26 = .ok (.iconst (-1), 1) := by decide +kernel
theorem dX1_headingOf_27 : decode cX1_headingOf 27 = .ok (.ireturn, 1) := by decide +kernel
theorem dX1_nameOfKind_0 : decode cX1_nameOfKind 0 = .ok (.iload_n 0, 1) := by decide +kernel
theorem dX1_nameOfKind_1 : decode cX1_nameOfKind 1 = .ok (.tableswitch 57 1 6 #[39, 42, 45, 48, 51, 54], 39) := by decide +kernel
theorem dX1_nameOfKind_40 : decode cX1_nameOfKind 40 = .ok (.ldc 95, 2) := by decide +kernel
theorem dX1_nameOfKind_42 : decode cX1_nameOfKind 42 = .ok (.areturn, 1) := by decide +kernel
theorem dX1_nameOfKind_43 : decode cX1_nameOfKind 43 = .ok (.ldc 97, 2) := by decide +kernel
theorem dX1_nameOfKind_45 : decode cX1_nameOfKind 45 = .ok (.areturn, 1) := by decide +kernel
theorem dX1_nameOfKind_46 : decode cX1_nameOfKind 46 = .ok (.ldc 99, 2) := by decide +kernel
theorem dX1_nameOfKind_48 : decode cX1_nameOfKind 48 = .ok (.areturn, 1) := by decide +kernel
theorem dX1_nameOfKind_49 : decode cX1_nameOfKind 49 = .ok (.ldc 101, 2) := by decide +kernel
theorem dX1_nameOfKind_51 : decode cX1_nameOfKind 51 = .ok (.areturn, 1) := by decide +kernel
theorem dX1_nameOfKind_52 : decode cX1_nameOfKind 52 = .ok (.ldc 103, 2) := by decide +kernel
theorem dX1_nameOfKind_54 : decode cX1_nameOfKind 54 = .ok (.areturn, 1) := by decide +kernel
theorem dX1_nameOfKind_55 : decode cX1_nameOfKind 55 = .ok (.ldc 105, 2) := by decide +kernel
theorem dX1_nameOfKind_57 : decode cX1_nameOfKind 57 = .ok (.areturn, 1) := by decide +kernel
theorem dX1_nameOfKind_58 : decode cX1_nameOfKind 58 = .ok (.ldc 107, 2) := by decide +kernel
theorem dX1_nameOfKind_60 : decode cX1_nameOfKind 60 = .ok (.areturn, 1) := by decide +kernel
theorem dX1_nameOfGround_0 : decode cX1_nameOfGround 0 = .ok (.iload_n 0, 1) := by decide +kernel
theorem dX1_nameOfGround_1 : decode cX1_nameOfGround 1 = .ok (.lookupswitch 33 #[(1, 27), (2, 30)], 27) := by decide +kernel
theorem dX1_nameOfGround_28 : decode cX1_nameOfGround 28 = .ok (.ldc 109, 2) := by decide +kernel
theorem dX1_nameOfGround_30 : decode cX1_nameOfGround 30 = .ok (.areturn, 1) := by decide +kernel
theorem dX1_nameOfGround_31 : decode cX1_nameOfGround 31 = .ok (.ldc 111, 2) := by decide +kernel
theorem dX1_nameOfGround_33 : decode cX1_nameOfGround 33 = .ok (.areturn, 1) := by decide +kernel
theorem dX1_nameOfGround_34 : decode cX1_nameOfGround 34 = .ok (.ldc 113, 2) := by decide +kernel
theorem dX1_nameOfGround_36 : decode cX1_nameOfGround 36 = .ok (.areturn, 1) := by decide +kernel
theorem dX1_nameOfHeading_0 : decode cX1_nameOfHeading 0 = .ok (.iload_n 0, 1) := by decide +kernel
theorem dX1_nameOfHeading_1 : decode cX1_nameOfHeading 1 = .ok (.tableswitch 36 0 2 #[27, 30, 33], 27) := by decide +kernel
theorem dX1_nameOfHeading_28 : decode cX1_nameOfHeading 28 = .ok (.ldc 115, 2) := by decide +kernel
theorem dX1_nameOfHeading_30 : decode cX1_nameOfHeading 30 = .ok (.areturn, 1) := by decide +kernel
theorem dX1_nameOfHeading_31 : decode cX1_nameOfHeading 31 = .ok (.ldc 117, 2) := by decide +kernel
theorem dX1_nameOfHeading_33 : decode cX1_nameOfHeading 33 = .ok (.areturn, 1) := by decide +kernel
theorem dX1_nameOfHeading_34 : decode cX1_nameOfHeading 34 = .ok (.ldc 119, 2) := by decide +kernel
theorem dX1_nameOfHeading_36 : decode cX1_nameOfHeading 36 = .ok (.areturn, 1) := by decide +kernel
theorem dX1_nameOfHeading_37 : decode cX1_nameOfHeading 37 = .ok (.ldc 121, 2) := by decide +kernel
theorem dX1_nameOfHeading_39 : decode cX1_nameOfHeading 39 = .ok (.areturn, 1) := by decide +kernel
set_option maxRecDepth 20000 in
theorem ggX2_init_X3_init : GoodIn wsX2_init wsX3_init := goodIn_r _ [13, 14, 2, 3] (by decide +kernel) (by decide +kernel)
set_option maxRecDepth 20000 in
theorem gX2_init_X3_init_n28 : GoodIn wsX2_init (wsX3_init) := ggX2_init_X3_init
theorem dX2_init_0 : decode cX2_init 0 = .ok (.aload_n 0, 1) := by decide +kernel
theorem dX2_init_1 : decode cX2_init 1 = .ok (.invokespecial 3, 3) := by decide +kernel
theorem dX2_init_4 : decode cX2_init 4 = .ok (.aload_n 0, 1) := by decide +kernel
theorem dX2_init_5 : decode cX2_init 5 = .ok (.bipush 36, 2) := by decide +kernel
theorem dX2_init_7 : decode cX2_init 7 = .ok (.newarray .int, 2) := by decide +kernel
theorem dX2_init_9 : decode cX2_init 9 = .ok (.putfield 9, 3) := by decide +kernel
theorem dX2_init_12 : decode cX2_init 12 = .ok (.aload_n 0, 1) := by decide +kernel
theorem dX2_init_13 : decode cX2_init 13 = .ok (.iconst 1, 1) := by decide +kernel
theorem dX2_init_14 : decode cX2_init 14 = .ok (.putfield 15, 3) := by decide +kernel
theorem dX2_init_17 : decode cX2_init 17 = .ok (.aload_n 0, 1) := by decide +kernel
theorem dX2_init_18 : decode cX2_init 18 = .ok (.bipush 10, 2) := by decide +kernel
theorem dX2_init_20 : decode cX2_init 20 = .ok (.newarray .int, 2) := by decide +kernel
theorem dX2_init_22 : decode cX2_init 22 = .ok (.putfield 19, 3) := by decide +kernel
theorem dX2_init_25 : decode cX2_init 25 = .ok (.aload_n 0, 1) := by decide +kernel
theorem dX2_init_26 : decode cX2_init 26 = .ok (.bipush 8, 2) := by decide +kernel
theorem dX2_init_28 : decode cX2_init 28 = .ok (.anewarray 22, 3) := by decide +kernel
theorem dX2_init_31 : decode cX2_init 31 = .ok (.putfield 24, 3) := by decide +kernel
theorem dX2_init_34 : decode cX2_init 34 = .ok (.iconst 0, 1) := by decide +kernel
theorem dX2_init_35 : decode cX2_init 35 = .ok (.istore_n 1, 1) := by decide +kernel
theorem dX2_init_36 : decode cX2_init 36 = .ok (.iload_n 1, 1) := by decide +kernel
theorem dX2_init_37 : decode cX2_init 37 = .ok (.aload_n 0, 1) := by decide +kernel
theorem dX2_init_38 : decode cX2_init 38 = .ok (.getfield 24, 3) := by decide +kernel
theorem dX2_init_41 : decode cX2_init 41 = .ok (.arraylength, 1) := by decide +kernel
theorem dX2_init_42 : decode cX2_init 42 = .ok (.if_icmp .ge 22, 3) := by decide +kernel
theorem dX2_init_45 : decode cX2_init 45 = .ok (.aload_n 0, 1) := by decide +kernel
theorem dX2_init_46 : decode cX2_init 46 = .ok (.getfield 24, 3) := by decide +kernel
theorem dX2_init_49 : decode cX2_init 49 = .ok (.iload_n 1, 1) := by decide +kernel
theorem dX2_init_50 : decode cX2_init 50 = .ok (.new 22, 3) := by decide +kernel
theorem dX2_init_53 : decode cX2_init 53 = .ok (.dup, 1) := by decide +kernel
theorem dX2_init_54 : decode cX2_init 54 = .ok (.invokespecial 28, 3) := by decide +kernel
theorem dX2_init_57 : decode cX2_init 57 = .ok (.aastore, 1) := by decide +kernel
theorem dX2_init_58 : decode cX2_init 58 = .ok (.iinc 1 1, 3) := by decide +kernel
theorem dX2_init_61 : decode cX2_init 61 = .ok (.goto (-25), 3) := by decide +kernel
theorem dX2_init_64 : decode cX2_init 64 = .ok (.iconst 0, 1) := by decide +kernel
theorem dX2_init_65 : decode cX2_init 65 = .ok (.istore_n 1, 1) := by decide +kernel
theorem dX2_init_66 : decode cX2_init 66 = .ok (.iload_n 1, 1) := by decide +kernel
theorem dX2_init_67 : decode cX2_init 67 = .ok (.aload_n 0, 1) := by decide +kernel
theorem dX2_init_68 : decode cX2_init 68 = .ok (.getfield 19, 3) := by decide +kernel
theorem dX2_init_71 : decode cX2_init 71 = .ok (.arraylength, 1) := by decide +kernel
theorem dX2_init_72 : decode cX2_init 72 = .ok (.if_icmp .ge 16, 3) := by decide +kernel
theorem dX2_init_75 : decode cX2_init 75 = .ok (.aload_n 0, 1) := by decide +kernel
theorem dX2_init_76 : decode cX2_init 76 = .ok (.getfield 19, 3) := by decide +kernel
theorem dX2_init_79 : decode cX2_init 79 = .ok (.iload_n 1, 1) := by decide +kernel
theorem dX2_init_80 : decode cX2_init 80 = .ok (.iconst (-1), 1) := by decide +kernel
theorem dX2_init_81 : decode cX2_init 81 = .ok (.iastore, 1) := by decide +kernel
theorem dX2_init_82 : decode cX2_init 82 = .ok (.iinc 1 1, 3) := by decide +kernel
theorem dX2_init_85 : decode cX2_init 85 = .ok (.goto (-19), 3) := by decide +kernel
theorem dX2_init_88 : decode cX2_init 88 = .ok (.return_, 1) := by decide +kernel
set_option maxRecDepth 20000 in
theorem ggX2_copyFrom_X6_putAll : GoodIn wsX2_copyFrom wsX6_putAll := goodIn_r _ [10, 11, 12, 13, 14, 15, 16, 17, 18] (by decide +kernel) (by decide +kernel)
set_option maxRecDepth 20000 in
theorem gX2_copyFrom_X6_putAll_n29 : GoodIn wsX2_copyFrom (wsX6_putAll) := ggX2_copyFrom_X6_putAll
set_option maxRecDepth 20000 in
theorem ggX2_copyFrom_X2_sownAt : GoodIn wsX2_copyFrom wsX2_sownAt := goodIn_r _ [23, 24, 34, 35, 36, 37, 38, 39, 40, 41] (by decide +kernel) (by decide +kernel)
set_option maxRecDepth 20000 in
theorem gX2_copyFrom_X2_sownAt : GoodIn wsX2_copyFrom (wsV RX2 40 RX2 yX2_sownAt wsX2_sownAt) := goodIn_app (goodIn_of _ (by decide +kernel)) ggX2_copyFrom_X2_sownAt
set_option maxRecDepth 20000 in
theorem ggX2_copyFrom_X3_mirror : GoodIn wsX2_copyFrom wsX3_mirror := goodIn_r _ [29, 30, 31, 32, 33, 42, 43, 44, 45] (by decide +kernel) (by decide +kernel)
set_option maxRecDepth 20000 in
theorem gX2_copyFrom_X3_mirror : GoodIn wsX2_copyFrom (wsV RX2 44 RX3 yX3_mirror wsX3_mirror) := goodIn_app (goodIn_of _ (by decide +kernel)) ggX2_copyFrom_X3_mirror
theorem dX2_copyFrom_0 : decode cX2_copyFrom 0 = .ok (.aload_n 0, 1) := by decide +kernel
theorem dX2_copyFrom_1 : decode cX2_copyFrom 1 = .ok (.getfield 9, 3) := by decide +kernel
theorem dX2_copyFrom_4 : decode cX2_copyFrom 4 = .ok (.aload_n 1, 1) := by decide +kernel
theorem dX2_copyFrom_5 : decode cX2_copyFrom 5 = .ok (.getfield 9, 3) := by decide +kernel
theorem dX2_copyFrom_8 : decode cX2_copyFrom 8 = .ok (.invokestatic 29, 3) := by decide +kernel
theorem dX2_copyFrom_11 : decode cX2_copyFrom 11 = .ok (.aload_n 0, 1) := by decide +kernel
theorem dX2_copyFrom_12 : decode cX2_copyFrom 12 = .ok (.getfield 19, 3) := by decide +kernel
theorem dX2_copyFrom_15 : decode cX2_copyFrom 15 = .ok (.aload_n 1, 1) := by decide +kernel
theorem dX2_copyFrom_16 : decode cX2_copyFrom 16 = .ok (.getfield 19, 3) := by decide +kernel
theorem dX2_copyFrom_19 : decode cX2_copyFrom 19 = .ok (.invokestatic 29, 3) := by decide +kernel
theorem dX2_copyFrom_22 : decode cX2_copyFrom 22 = .ok (.aload_n 0, 1) := by decide +kernel
theorem dX2_copyFrom_23 : decode cX2_copyFrom 23 = .ok (.aload_n 1, 1) := by decide +kernel
theorem dX2_copyFrom_24 : decode cX2_copyFrom 24 = .ok (.getfield 33, 3) := by decide +kernel
theorem dX2_copyFrom_27 : decode cX2_copyFrom 27 = .ok (.putfield 33, 3) := by decide +kernel
theorem dX2_copyFrom_30 : decode cX2_copyFrom 30 = .ok (.aload_n 0, 1) := by decide +kernel
theorem dX2_copyFrom_31 : decode cX2_copyFrom 31 = .ok (.aload_n 1, 1) := by decide +kernel
theorem dX2_copyFrom_32 : decode cX2_copyFrom 32 = .ok (.getfield 37, 3) := by decide +kernel
theorem dX2_copyFrom_35 : decode cX2_copyFrom 35 = .ok (.putfield 37, 3) := by decide +kernel
theorem dX2_copyFrom_38 : decode cX2_copyFrom 38 = .ok (.iconst 0, 1) := by decide +kernel
theorem dX2_copyFrom_39 : decode cX2_copyFrom 39 = .ok (.istore_n 2, 1) := by decide +kernel
theorem dX2_copyFrom_40 : decode cX2_copyFrom 40 = .ok (.iload_n 2, 1) := by decide +kernel
theorem dX2_copyFrom_41 : decode cX2_copyFrom 41 = .ok (.bipush 8, 2) := by decide +kernel
theorem dX2_copyFrom_43 : decode cX2_copyFrom 43 = .ok (.if_icmp .ge 37, 3) := by decide +kernel
theorem dX2_copyFrom_46 : decode cX2_copyFrom 46 = .ok (.aload_n 0, 1) := by decide +kernel
theorem dX2_copyFrom_47 : decode cX2_copyFrom 47 = .ok (.iload_n 2, 1) := by decide +kernel
theorem dX2_copyFrom_48 : decode cX2_copyFrom 48 = .ok (.invokevirtual 40, 3) := by decide +kernel
theorem dX2_copyFrom_51 : decode cX2_copyFrom 51 = .ok (.astore_n 3, 1) := by decide +kernel
theorem dX2_copyFrom_52 : decode cX2_copyFrom 52 = .ok (.aload_n 1, 1) := by decide +kernel
theorem dX2_copyFrom_53 : decode cX2_copyFrom 53 = .ok (.iload_n 2, 1) := by decide +kernel
theorem dX2_copyFrom_54 : decode cX2_copyFrom 54 = .ok (.invokevirtual 40, 3) := by decide +kernel
theorem dX2_copyFrom_57 : decode cX2_copyFrom 57 = .ok (.astore 4, 2) := by decide +kernel
theorem dX2_copyFrom_59 : decode cX2_copyFrom 59 = .ok (.aload_n 3, 1) := by decide +kernel
theorem dX2_copyFrom_60 : decode cX2_copyFrom 60 = .ok (.ifnull 14, 3) := by decide +kernel
theorem dX2_copyFrom_63 : decode cX2_copyFrom 63 = .ok (.aload 4, 2) := by decide +kernel
theorem dX2_copyFrom_65 : decode cX2_copyFrom 65 = .ok (.ifnull 9, 3) := by decide +kernel
theorem dX2_copyFrom_68 : decode cX2_copyFrom 68 = .ok (.aload_n 3, 1) := by decide +kernel
theorem dX2_copyFrom_69 : decode cX2_copyFrom 69 = .ok (.aload 4, 2) := by decide +kernel
theorem dX2_copyFrom_71 : decode cX2_copyFrom 71 = .ok (.invokevirtual 44, 3) := by decide +kernel
theorem dX2_copyFrom_74 : decode cX2_copyFrom 74 = .ok (.iinc 2 1, 3) := by decide +kernel
theorem dX2_copyFrom_77 : decode cX2_copyFrom 77 = .ok (.goto (-37), 3) := by decide +kernel
theorem dX2_copyFrom_80 : decode cX2_copyFrom 80 = .ok (.aload_n 0, 1) := by decide +kernel
theorem dX2_copyFrom_81 : decode cX2_copyFrom 81 = .ok (.aload_n 1, 1) := by decide +kernel
theorem dX2_copyFrom_82 : decode cX2_copyFrom 82 = .ok (.getfield 48, 3) := by decide +kernel
theorem dX2_copyFrom_85 : decode cX2_copyFrom 85 = .ok (.putfield 48, 3) := by decide +kernel
theorem dX2_copyFrom_88 : decode cX2_copyFrom 88 = .ok (.aload_n 0, 1) := by decide +kernel
theorem dX2_copyFrom_89 : decode cX2_copyFrom 89 = .ok (.aload_n 1, 1) := by decide +kernel
theorem dX2_copyFrom_90 : decode cX2_copyFrom 90 = .ok (.getfield 51, 3) := by decide +kernel
theorem dX2_copyFrom_93 : decode cX2_copyFrom 93 = .ok (.putfield 51, 3) := by decide +kernel
theorem dX2_copyFrom_96 : decode cX2_copyFrom 96 = .ok (.aload_n 0, 1) := by decide +kernel
theorem dX2_copyFrom_97 : decode cX2_copyFrom 97 = .ok (.aload_n 1, 1) := by decide +kernel
theorem dX2_copyFrom_98 : decode cX2_copyFrom 98 = .ok (.getfield 15, 3) := by decide +kernel
theorem dX2_copyFrom_101 : decode cX2_copyFrom 101 = .ok (.putfield 15, 3) := by decide +kernel
theorem dX2_copyFrom_104 : decode cX2_copyFrom 104 = .ok (.return_, 1) := by decide +kernel
set_option maxRecDepth 20000 in
theorem ggX2_copyWith_X2_copyFrom : GoodIn wsX2_copyWith wsX2_copyFrom := goodIn_r _ [5, 6, 7, 8, 9, 10, 11, 12, 13, 14, 15, 16, 17, 18, 19, 20, 21, 22, 23, 24, 25, 26, 4, 27, 28, 29, 30, 31, 32, 33, 34, 35, 36, 37, 46, 47, 48, 49, 50, 51, 52, 53, 54, 55, 56, 57] (by decide +kernel) (by decide +kernel)
set_option maxRecDepth 20000 in
theorem gX2_copyWith_X2_copyFrom : GoodIn wsX2_copyWith (wsV RX2 54 RX2 yX2_copyFrom wsX2_copyFrom) := goodIn_app (goodIn_of _ (by decide +kernel)) ggX2_copyWith_X2_copyFrom
set_option maxRecDepth 20000 in
theorem ggX2_copyWith_X2_seedAt : GoodIn wsX2_copyWith wsX2_seedAt := goodIn_r _ [41, 10, 24, 25, 26, 4, 27, 28, 46, 47, 48, 49, 50, 51, 52, 53] (by decide +kernel) (by decide +kernel)
set_option maxRecDepth 20000 in
theorem gX2_copyWith_X2_seedAt : GoodIn wsX2_copyWith (wsV RX2 58 RX2 yX2_seedAt wsX2_seedAt) := goodIn_app (goodIn_of _ (by decide +kernel)) ggX2_copyWith_X2_seedAt
set_option maxRecDepth 20000 in
theorem ggX2_copyWith_X3_replace : GoodIn wsX2_copyWith wsX3_replace := goodIn_r _ [45, 34, 35, 36, 37, 54, 55, 56, 57] (by decide +kernel) (by decide +kernel)
set_option maxRecDepth 20000 in
theorem gX2_copyWith_X3_replace : GoodIn wsX2_copyWith (wsV RX2 61 RX3 yX3_replace wsX3_replace) := goodIn_app (goodIn_of _ (by decide +kernel)) ggX2_copyWith_X3_replace
theorem dX2_copyWith_0 : decode cX2_copyWith 0 = .ok (.aload_n 0, 1) := by decide +kernel
theorem dX2_copyWith_1 : decode cX2_copyWith 1 = .ok (.aload_n 1, 1) := by decide +kernel
theorem dX2_copyWith_2 : decode cX2_copyWith 2 = .ok (.invokevirtual 54, 3) := by decide +kernel
theorem dX2_copyWith_5 : decode cX2_copyWith 5 = .ok (.aload_n 0, 1) := by decide +kernel
theorem dX2_copyWith_6 : decode cX2_copyWith 6 = .ok (.iload_n 2, 1) := by decide +kernel
theorem dX2_copyWith_7 : decode cX2_copyWith 7 = .ok (.invokevirtual 58, 3) := by decide +kernel
theorem dX2_copyWith_10 : decode cX2_copyWith 10 = .ok (.astore 5, 2) := by decide +kernel
theorem dX2_copyWith_12 : decode cX2_copyWith 12 = .ok (.aload 5, 2) := by decide +kernel
theorem dX2_copyWith_14 : decode cX2_copyWith 14 = .ok (.ifnull 12, 3) := by decide +kernel
theorem dX2_copyWith_17 : decode cX2_copyWith 17 = .ok (.aload 5, 2) := by decide +kernel
theorem dX2_copyWith_19 : decode cX2_copyWith 19 = .ok (.iload_n 3, 1) := by decide +kernel
theorem dX2_copyWith_20 : decode cX2_copyWith 20 = .ok (.iload 4, 2) := by decide +kernel
theorem dX2_copyWith_22 : decode cX2_copyWith 22 = .ok (.invokevirtual 61, 3) := by decide +kernel
theorem dX2_copyWith_25 : decode cX2_copyWith 25 = .ok (.pop, 1) := by decide +kernel
theorem dX2_copyWith_26 : decode cX2_copyWith 26 = .ok (.return_, 1) := by decide +kernel
theorem dX2_sownAt_0 : decode cX2_sownAt 0 = .ok (.iload_n 1, 1) := by decide +kernel
theorem dX2_sownAt_1 : decode cX2_sownAt 1 = .ok (.ifCond .lt 21, 3) := by decide +kernel
theorem dX2_sownAt_4 : decode cX2_sownAt 4 = .ok (.iload_n 1, 1) := by decide +kernel
theorem dX2_sownAt_5 : decode cX2_sownAt 5 = .ok (.aload_n 0, 1) := by decide +kernel
theorem dX2_sownAt_6 : decode cX2_sownAt 6 = .ok (.getfield 24, 3) := by decide +kernel
theorem dX2_sownAt_9 : decode cX2_sownAt 9 = .ok (.arraylength, 1) := by decide +kernel
theorem dX2_sownAt_10 : decode cX2_sownAt 10 = .ok (.if_icmp .ge 12, 3) := by decide +kernel
theorem dX2_sownAt_13 : decode cX2_sownAt 13 = .ok (.aload_n 0, 1) := by decide +kernel
theorem dX2_sownAt_14 : decode cX2_sownAt 14 = .ok (.getfield 24, 3) := by decide +kernel
theorem dX2_sownAt_17 : decode cX2_sownAt 17 = .ok (.iload_n 1, 1) := by decide +kernel
theorem dX2_sownAt_18 : decode cX2_sownAt 18 = .ok (.aaload, 1) := by decide +kernel
theorem dX2_sownAt_19 : decode cX2_sownAt 19 = .ok (.goto 4, 3) := by decide +kernel
theorem dX2_sownAt_22 : decode cX2_sownAt 22 = .ok (.aconst_null, 1) := by decide +kernel
theorem dX2_sownAt_23 : decode cX2_sownAt 23 = .ok (.areturn, 1) := by decide +kernel
set_option maxRecDepth 20000 in
theorem ggX2_seedAt_X2_sownAt : GoodIn wsX2_seedAt wsX2_sownAt := goodIn_r _ [6, 7, 8, 9, 10, 11, 12, 13, 14, 15] (by decide +kernel) (by decide +kernel)
set_option maxRecDepth 20000 in
theorem gX2_seedAt_X2_sownAt : GoodIn wsX2_seedAt (wsV RX2 40 RX2 yX2_sownAt wsX2_sownAt) := goodIn_app (goodIn_of _ (by decide +kernel)) ggX2_seedAt_X2_sownAt
theorem dX2_seedAt_0 : decode cX2_seedAt 0 = .ok (.iload_n 1, 1) := by decide +kernel
theorem dX2_seedAt_1 : decode cX2_seedAt 1 = .ok (.aload_n 0, 1) := by decide +kernel
theorem dX2_seedAt_2 : decode cX2_seedAt 2 = .ok (.getfield 48, 3) := by decide +kernel
theorem dX2_seedAt_5 : decode cX2_seedAt 5 = .ok (.if_icmp .ge 11, 3) := by decide +kernel
theorem dX2_seedAt_8 : decode cX2_seedAt 8 = .ok (.aload_n 0, 1) := by decide +kernel
theorem dX2_seedAt_9 : decode cX2_seedAt 9 = .ok (.iload_n 1, 1) := by decide +kernel
theorem dX2_seedAt_10 : decode cX2_seedAt 10 = .ok (.invokevirtual 40, 3) := by decide +kernel
theorem dX2_seedAt_13 : decode cX2_seedAt 13 = .ok (.goto 4, 3) := by decide +kernel
theorem dX2_seedAt_16 : decode cX2_seedAt 16 = .ok (.aconst_null, 1) := by decide +kernel
theorem dX2_seedAt_17 : decode cX2_seedAt 17 = .ok (.areturn, 1) := by decide +kernel
theorem dX2_isFull_0 : decode cX2_isFull 0 = .ok (.aload_n 0, 1) := by decide +kernel
theorem dX2_isFull_1 : decode cX2_isFull 1 = .ok (.getfield 48, 3) := by decide +kernel
theorem dX2_isFull_4 : decode cX2_isFull 4 = .ok (.bipush 8, 2) := by decide +kernel
theorem dX2_isFull_6 : decode cX2_isFull 6 = .ok (.if_icmp .lt 7, 3) := by decide +kernel
theorem dX2_isFull_9 : decode cX2_isFull 9 = .ok (.iconst 1, 1) := by decide +kernel
theorem dX2_isFull_10 : decode cX2_isFull 10 = .ok (.goto 4, 3) := by decide +kernel
theorem dX2_isFull_13 : decode cX2_isFull 13 = .ok (.iconst 0, 1) := by decide +kernel
theorem dX2_isFull_14 : decode cX2_isFull 14 = .ok (.ireturn, 1) := by decide +kernel
set_option maxRecDepth 20000 in
theorem ggX2_plant_X2_sownAt : GoodIn wsX2_plant wsX2_sownAt := goodIn_r _ [6, 7, 8, 9, 10, 11, 12, 13, 14, 15] (by decide +kernel) (by decide +kernel)
set_option maxRecDepth 20000 in
theorem gX2_plant_X2_sownAt : GoodIn wsX2_plant (wsV RX2 40 RX2 yX2_sownAt wsX2_sownAt) := goodIn_app (goodIn_of _ (by decide +kernel)) ggX2_plant_X2_sownAt
theorem dX2_plant_0 : decode cX2_plant 0 = .ok (.aload_n 0, 1) := by decide +kernel
theorem dX2_plant_1 : decode cX2_plant 1 = .ok (.aload_n 0, 1) := by decide +kernel
theorem dX2_plant_2 : decode cX2_plant 2 = .ok (.getfield 48, 3) := by decide +kernel
theorem dX2_plant_5 : decode cX2_plant 5 = .ok (.invokevirtual 40, 3) := by decide +kernel
theorem dX2_plant_8 : decode cX2_plant 8 = .ok (.astore 5, 2) := by decide +kernel
theorem dX2_plant_10 : decode cX2_plant 10 = .ok (.aload 5, 2) := by decide +kernel
theorem dX2_plant_12 : decode cX2_plant 12 = .ok (.ifnonnull 5, 3) := by decide +kernel
theorem dX2_plant_15 : decode cX2_plant 15 = .ok (.iconst (-1), 1) := by decide +kernel
theorem dX2_plant_16 : decode cX2_plant 16 = .ok (.ireturn, 1) := by decide +kernel
theorem dX2_plant_17 : decode cX2_plant 17 = .ok (.aload 5, 2) := by decide +kernel
theorem dX2_plant_19 : decode cX2_plant 19 = .ok (.iload_n 1, 1) := by decide +kernel
theorem dX2_plant_20 : decode cX2_plant 20 = .ok (.putfield 65, 3) := by decide +kernel
theorem dX2_plant_23 : decode cX2_plant 23 = .ok (.aload 5, 2) := by decide +kernel
theorem dX2_plant_25 : decode cX2_plant 25 = .ok (.iload_n 2, 1) := by decide +kernel
theorem dX2_plant_26 : decode cX2_plant 26 = .ok (.putfield 68, 3) := by decide +kernel
theorem dX2_plant_29 : decode cX2_plant 29 = .ok (.aload 5, 2) := by decide +kernel
theorem dX2_plant_31 : decode cX2_plant 31 = .ok (.iload_n 3, 1) := by decide +kernel
theorem dX2_plant_32 : decode cX2_plant 32 = .ok (.putfield 71, 3) := by decide +kernel
theorem dX2_plant_35 : decode cX2_plant 35 = .ok (.aload 5, 2) := by decide +kernel
theorem dX2_plant_37 : decode cX2_plant 37 = .ok (.iload 4, 2) := by decide +kernel
theorem dX2_plant_39 : decode cX2_plant 39 = .ok (.putfield 74, 3) := by decide +kernel
theorem dX2_plant_42 : decode cX2_plant 42 = .ok (.aload_n 0, 1) := by decide +kernel
theorem dX2_plant_43 : decode cX2_plant 43 = .ok (.dup, 1) := by decide +kernel
theorem dX2_plant_44 : decode cX2_plant 44 = .ok (.getfield 48, 3) := by decide +kernel
theorem dX2_plant_47 : decode cX2_plant 47 = .ok (.iconst 1, 1) := by decide +kernel
theorem dX2_plant_48 : decode cX2_plant 48 = .ok (.iadd, 1) := by decide +kernel
theorem dX2_plant_49 : decode cX2_plant 49 = .ok (.putfield 48, 3) := by decide +kernel
theorem dX2_plant_52 : decode cX2_plant 52 = .ok (.aload_n 0, 1) := by decide +kernel
theorem dX2_plant_53 : decode cX2_plant 53 = .ok (.getfield 48, 3) := by decide +kernel
theorem dX2_plant_56 : decode cX2_plant 56 = .ok (.iconst 1, 1) := by decide +kernel
theorem dX2_plant_57 : decode cX2_plant 57 = .ok (.isub, 1) := by decide +kernel
theorem dX2_plant_58 : decode cX2_plant 58 = .ok (.ireturn, 1) := by decide +kernel
set_option maxRecDepth 20000 in
theorem ggX2_groundOf_X6_bit : GoodIn wsX2_groundOf wsX6_bit := goodIn_r _ [5] (by decide +kernel) (by decide +kernel)
set_option maxRecDepth 20000 in
theorem gX2_groundOf_X6_bit_n77 : GoodIn wsX2_groundOf (wsX6_bit) := ggX2_groundOf_X6_bit
theorem dX2_groundOf_0 : decode cX2_groundOf 0 = .ok (.aload_n 0, 1) := by decide +kernel
theorem dX2_groundOf_1 : decode cX2_groundOf 1 = .ok (.getfield 33, 3) := by decide +kernel
theorem dX2_groundOf_4 : decode cX2_groundOf 4 = .ok (.iload_n 1, 1) := by decide +kernel
theorem dX2_groundOf_5 : decode cX2_groundOf 5 = .ok (.invokestatic 77, 3) := by decide +kernel
theorem dX2_groundOf_8 : decode cX2_groundOf 8 = .ok (.land, 1) := by decide +kernel
theorem dX2_groundOf_9 : decode cX2_groundOf 9 = .ok (.lconst 0, 1) := by decide +kernel
theorem dX2_groundOf_10 : decode cX2_groundOf 10 = .ok (.lcmp, 1) := by decide +kernel
theorem dX2_groundOf_11 : decode cX2_groundOf 11 = .ok (.ifCond .eq 5, 3) := by decide +kernel
theorem dX2_groundOf_14 : decode cX2_groundOf 14 = .ok (.iconst 1, 1) := by decide +kernel
theorem dX2_groundOf_15 : decode cX2_groundOf 15 = .ok (.ireturn, 1) := by decide +kernel
theorem dX2_groundOf_16 : decode cX2_groundOf 16 = .ok (.aload_n 0, 1) := by decide +kernel
theorem dX2_groundOf_17 : decode cX2_groundOf 17 = .ok (.getfield 37, 3) := by decide +kernel
theorem dX2_groundOf_20 : decode cX2_groundOf 20 = .ok (.iload_n 1, 1) := by decide +kernel
theorem dX2_groundOf_21 : decode cX2_groundOf 21 = .ok (.invokestatic 77, 3) := by decide +kernel
theorem dX2_groundOf_24 : decode cX2_groundOf 24 = .ok (.land, 1) := by decide +kernel
theorem dX2_groundOf_25 : decode cX2_groundOf 25 = .ok (.lconst 0, 1) := by decide +kernel
theorem dX2_groundOf_26 : decode cX2_groundOf 26 = .ok (.lcmp, 1) := by decide +kernel
theorem dX2_groundOf_27 : decode cX2_groundOf 27 = .ok (.ifCond .eq 7, 3) := by decide +kernel
theorem dX2_groundOf_30 : decode cX2_groundOf 30 = .ok (.iconst 2, 1) := by decide +kernel
theorem dX2_groundOf_31 : decode cX2_groundOf 31 = .ok (.goto 4, 3) := by decide +kernel
theorem dX2_groundOf_34 : decode cX2_groundOf 34 = .ok (.iconst 0, 1) := by decide +kernel
theorem dX2_groundOf_35 : decode cX2_groundOf 35 = .ok (.ireturn, 1) := by decide +kernel
set_option maxRecDepth 20000 in
theorem ggX2_becomeGround_X6_bit : GoodIn wsX2_becomeGround wsX6_bit := goodIn_r _ [7] (by decide +kernel) (by decide +kernel)
set_option maxRecDepth 20000 in
theorem gX2_becomeGround_X6_bit_n77 : GoodIn wsX2_becomeGround (wsX6_bit) := ggX2_becomeGround_X6_bit
set_option maxRecDepth 20000 in
theorem ggX2_becomeGround_X6_put : GoodIn wsX2_becomeGround wsX6_put := goodIn_r _ [9] (by decide +kernel) (by decide +kernel)
set_option maxRecDepth 20000 in
theorem gX2_becomeGround_X6_put_n83 : GoodIn wsX2_becomeGround (wsX6_put) := ggX2_becomeGround_X6_put
theorem dX2_becomeGround_0 : decode cX2_becomeGround 0 = .ok (.aload_n 0, 1) := by decide +kernel
theorem dX2_becomeGround_1 : decode cX2_becomeGround 1 = .ok (.dup, 1) := by decide +kernel
theorem dX2_becomeGround_2 : decode cX2_becomeGround 2 = .ok (.getfield 33, 3) := by decide +kernel
theorem dX2_becomeGround_5 : decode cX2_becomeGround 5 = .ok (.iload_n 1, 1) := by decide +kernel
theorem dX2_becomeGround_6 : decode cX2_becomeGround 6 = .ok (.invokestatic 77, 3) := by decide +kernel
theorem dX2_becomeGround_9 : decode cX2_becomeGround 9 = .ok (.ldc2_w 81, 3) := by decide +kernel
theorem dX2_becomeGround_12 : decode cX2_becomeGround 12 = .ok (.lxor, 1) := by decide +kernel
theorem dX2_becomeGround_13 : decode cX2_becomeGround 13 = .ok (.land, 1) := by decide +kernel
theorem dX2_becomeGround_14 : decode cX2_becomeGround 14 = .ok (.putfield 33, 3) := by decide +kernel
theorem dX2_becomeGround_17 : decode cX2_becomeGround 17 = .ok (.aload_n 0, 1) := by decide +kernel
theorem dX2_becomeGround_18 : decode cX2_becomeGround 18 = .ok (.dup, 1) := by decide +kernel
theorem dX2_becomeGround_19 : decode cX2_becomeGround 19 = .ok (.getfield 37, 3) := by decide +kernel
theorem dX2_becomeGround_22 : decode cX2_becomeGround 22 = .ok (.iload_n 1, 1) := by decide +kernel
theorem dX2_becomeGround_23 : decode cX2_becomeGround 23 = .ok (.invokestatic 77, 3) := by decide +kernel
theorem dX2_becomeGround_26 : decode cX2_becomeGround 26 = .ok (.ldc2_w 81, 3) := by decide +kernel
theorem dX2_becomeGround_29 : decode cX2_becomeGround 29 = .ok (.lxor, 1) := by decide +kernel
theorem dX2_becomeGround_30 : decode cX2_becomeGround 30 = .ok (.land, 1) := by decide +kernel
theorem dX2_becomeGround_31 : decode cX2_becomeGround 31 = .ok (.putfield 37, 3) := by decide +kernel
theorem dX2_becomeGround_34 : decode cX2_becomeGround 34 = .ok (.iload_n 2, 1) := by decide +kernel
theorem dX2_becomeGround_35 : decode cX2_becomeGround 35 = .ok (.iconst 1, 1) := by decide +kernel
theorem dX2_becomeGround_36 : decode cX2_becomeGround 36 = .ok (.if_icmp .ne 19, 3) := by decide +kernel
theorem dX2_becomeGround_39 : decode cX2_becomeGround 39 = .ok (.aload_n 0, 1) := by decide +kernel
theorem dX2_becomeGround_40 : decode cX2_becomeGround 40 = .ok (.dup, 1) := by decide +kernel
theorem dX2_becomeGround_41 : decode cX2_becomeGround 41 = .ok (.getfield 33, 3) := by decide +kernel
theorem dX2_becomeGround_44 : decode cX2_becomeGround 44 = .ok (.iload_n 1, 1) := by decide +kernel
theorem dX2_becomeGround_45 : decode cX2_becomeGround 45 = .ok (.invokestatic 77, 3) := by decide +kernel
theorem dX2_becomeGround_48 : decode cX2_becomeGround 48 = .ok (.lor, 1) := by decide +kernel
theorem dX2_becomeGround_49 : decode cX2_becomeGround 49 = .ok (.putfield 33, 3) := by decide +kernel
theorem dX2_becomeGround_52 : decode cX2_becomeGround 52 = .ok (.goto 21, 3) := by decide +kernel
theorem dX2_becomeGround_55 : decode cX2_becomeGround 55 = .ok (.iload_n 2, 1) := by decide +kernel
theorem dX2_becomeGround_56 : decode cX2_becomeGround 56 = .ok (.iconst 2, 1) := by decide +kernel
theorem dX2_becomeGround_57 : decode cX2_becomeGround 57 = .ok (.if_icmp .ne 16, 3) := by decide +kernel
theorem dX2_becomeGround_60 : decode cX2_becomeGround 60 = .ok (.aload_n 0, 1) := by decide +kernel
theorem dX2_becomeGround_61 : decode cX2_becomeGround 61 = .ok (.dup, 1) := by decide +kernel
theorem dX2_becomeGround_62 : decode cX2_becomeGround 62 = .ok (.getfield 37, 3) := by decide +kernel
theorem dX2_becomeGround_65 : decode cX2_becomeGround 65 = .ok (.iload_n 1, 1) := by decide +kernel
theorem dX2_becomeGround_66 : decode cX2_becomeGround 66 = .ok (.invokestatic 77, 3) := by decide +kernel
theorem dX2_becomeGround_69 : decode cX2_becomeGround 69 = .ok (.lor, 1) := by decide +kernel
theorem dX2_becomeGround_70 : decode cX2_becomeGround 70 = .ok (.putfield 37, 3) := by decide +kernel
theorem dX2_becomeGround_73 : decode cX2_becomeGround 73 = .ok (.iload_n 2, 1) := by decide +kernel
theorem dX2_becomeGround_74 : decode cX2_becomeGround 74 = .ok (.ifCond .eq 12, 3) := by decide +kernel
theorem dX2_becomeGround_77 : decode cX2_becomeGround 77 = .ok (.aload_n 0, 1) := by decide +kernel
theorem dX2_becomeGround_78 : decode cX2_becomeGround 78 = .ok (.getfield 9, 3) := by decide +kernel
theorem dX2_becomeGround_81 : decode cX2_becomeGround 81 = .ok (.iload_n 1, 1) := by decide +kernel
theorem dX2_becomeGround_82 : decode cX2_becomeGround 82 = .ok (.iconst 0, 1) := by decide +kernel
theorem dX2_becomeGround_83 : decode cX2_becomeGround 83 = .ok (.invokestatic 83, 3) := by decide +kernel
theorem dX2_becomeGround_86 : decode cX2_becomeGround 86 = .ok (.return_, 1) := by decide +kernel
theorem dX2_grassSet_0 : decode cX2_grassSet 0 = .ok (.ldc2_w 89, 3) := by decide +kernel
theorem dX2_grassSet_3 : decode cX2_grassSet 3 = .ok (.aload_n 0, 1) := by decide +kernel
theorem dX2_grassSet_4 : decode cX2_grassSet 4 = .ok (.getfield 33, 3) := by decide +kernel
theorem dX2_grassSet_7 : decode cX2_grassSet 7 = .ok (.aload_n 0, 1) := by decide +kernel
theorem dX2_grassSet_8 : decode cX2_grassSet 8 = .ok (.getfield 37, 3) := by decide +kernel
theorem dX2_grassSet_11 : decode cX2_grassSet 11 = .ok (.lor, 1) := by decide +kernel
theorem dX2_grassSet_12 : decode cX2_grassSet 12 = .ok (.ldc2_w 81, 3) := by decide +kernel
theorem dX2_grassSet_15 : decode cX2_grassSet 15 = .ok (.lxor, 1) := by decide +kernel
theorem dX2_grassSet_16 : decode cX2_grassSet 16 = .ok (.land, 1) := by decide +kernel
theorem dX2_grassSet_17 : decode cX2_grassSet 17 = .ok (.lreturn, 1) := by decide +kernel
set_option maxRecDepth 20000 in
theorem ggX2_isGrass_X2_grassSet : GoodIn wsX2_isGrass wsX2_grassSet := goodIn_r _ [5, 6, 7, 8, 9, 13, 14, 15, 16, 17, 18, 19, 20] (by decide +kernel) (by decide +kernel)
set_option maxRecDepth 20000 in
theorem gX2_isGrass_X2_grassSet : GoodIn wsX2_isGrass (wsV RX2 91 RX2 yX2_grassSet wsX2_grassSet) := goodIn_app (goodIn_of _ (by decide +kernel)) ggX2_isGrass_X2_grassSet
set_option maxRecDepth 20000 in
theorem ggX2_isGrass_X6_bit : GoodIn wsX2_isGrass wsX6_bit := goodIn_r _ [12] (by decide +kernel) (by decide +kernel)
set_option maxRecDepth 20000 in
theorem gX2_isGrass_X6_bit_n77 : GoodIn wsX2_isGrass (wsX6_bit) := ggX2_isGrass_X6_bit
theorem dX2_isGrass_0 : decode cX2_isGrass 0 = .ok (.aload_n 0, 1) := by decide +kernel
theorem dX2_isGrass_1 : decode cX2_isGrass 1 = .ok (.invokevirtual 91, 3) := by decide +kernel
theorem dX2_isGrass_4 : decode cX2_isGrass 4 = .ok (.iload_n 1, 1) := by decide +kernel
theorem dX2_isGrass_5 : decode cX2_isGrass 5 = .ok (.invokestatic 77, 3) := by decide +kernel
theorem dX2_isGrass_8 : decode cX2_isGrass 8 = .ok (.land, 1) := by decide +kernel
theorem dX2_isGrass_9 : decode cX2_isGrass 9 = .ok (.lconst 0, 1) := by decide +kernel
theorem dX2_isGrass_10 : decode cX2_isGrass 10 = .ok (.lcmp, 1) := by decide +kernel
theorem dX2_isGrass_11 : decode cX2_isGrass 11 = .ok (.ifCond .eq 7, 3) := by decide +kernel
theorem dX2_isGrass_14 : decode cX2_isGrass 14 = .ok (.iconst 1, 1) := by decide +kernel
theorem dX2_isGrass_15 : decode cX2_isGrass 15 = .ok (.goto 4, 3) := by decide +kernel
theorem dX2_isGrass_18 : decode cX2_isGrass 18 = .ok (.iconst 0, 1) := by decide +kernel
theorem dX2_isGrass_19 : decode cX2_isGrass 19 = .ok (.ireturn, 1) := by decide +kernel
set_option maxRecDepth 20000 in
theorem ggX2_pathOf_X6_at : GoodIn wsX2_pathOf wsX6_at := goodIn_r _ [4] (by decide +kernel) (by decide +kernel)
set_option maxRecDepth 20000 in
theorem gX2_pathOf_X6_at_n95 : GoodIn wsX2_pathOf (wsX6_at) := ggX2_pathOf_X6_at
theorem dX2_pathOf_0 : decode cX2_pathOf 0 = .ok (.aload_n 0, 1) := by decide +kernel
theorem dX2_pathOf_1 : decode cX2_pathOf 1 = .ok (.getfield 9, 3) := by decide +kernel
theorem dX2_pathOf_4 : decode cX2_pathOf 4 = .ok (.iload_n 1, 1) := by decide +kernel
theorem dX2_pathOf_5 : decode cX2_pathOf 5 = .ok (.invokestatic 95, 3) := by decide +kernel
theorem dX2_pathOf_8 : decode cX2_pathOf 8 = .ok (.ireturn, 1) := by decide +kernel
set_option maxRecDepth 20000 in
theorem ggX2_becomePath_X2_isGrass : GoodIn wsX2_becomePath wsX2_isGrass := goodIn_r _ [6, 7, 8, 9, 5, 10, 11, 12, 13, 14, 15, 16, 17, 20, 21, 22, 23, 24, 25, 26, 27] (by decide +kernel) (by decide +kernel)
set_option maxRecDepth 20000 in
theorem gX2_becomePath_X2_isGrass : GoodIn wsX2_becomePath (wsV RX2 99 RX2 yX2_isGrass wsX2_isGrass) := goodIn_app (goodIn_of _ (by decide +kernel)) ggX2_becomePath_X2_isGrass
set_option maxRecDepth 20000 in
theorem ggX2_becomePath_X6_put : GoodIn wsX2_becomePath wsX6_put := goodIn_r _ [19] (by decide +kernel) (by decide +kernel)
set_option maxRecDepth 20000 in
theorem gX2_becomePath_X6_put_n83 : GoodIn wsX2_becomePath (wsX6_put) := ggX2_becomePath_X6_put
theorem dX2_becomePath_0 : decode cX2_becomePath 0 = .ok (.aload_n 0, 1) := by decide +kernel
theorem dX2_becomePath_1 : decode cX2_becomePath 1 = .ok (.iload_n 1, 1) := by decide +kernel
theorem dX2_becomePath_2 : decode cX2_becomePath 2 = .ok (.invokevirtual 99, 3) := by decide +kernel
theorem dX2_becomePath_5 : decode cX2_becomePath 5 = .ok (.ifCond .eq 12, 3) := by decide +kernel
theorem dX2_becomePath_8 : decode cX2_becomePath 8 = .ok (.aload_n 0, 1) := by decide +kernel
theorem dX2_becomePath_9 : decode cX2_becomePath 9 = .ok (.getfield 9, 3) := by decide +kernel
theorem dX2_becomePath_12 : decode cX2_becomePath 12 = .ok (.iload_n 1, 1) := by decide +kernel
theorem dX2_becomePath_13 : decode cX2_becomePath 13 = .ok (.iload_n 2, 1) := by decide +kernel
theorem dX2_becomePath_14 : decode cX2_becomePath 14 = .ok (.invokestatic 83, 3) := by decide +kernel
theorem dX2_becomePath_17 : decode cX2_becomePath 17 = .ok (.return_, 1) := by decide +kernel
set_option maxRecDepth 20000 in
theorem ggX2_pathSet_X6_bit : GoodIn wsX2_pathSet wsX6_bit := goodIn_r _ [4] (by decide +kernel) (by decide +kernel)
set_option maxRecDepth 20000 in
theorem gX2_pathSet_X6_bit_n77 : GoodIn wsX2_pathSet (wsX6_bit) := ggX2_pathSet_X6_bit
theorem dX2_pathSet_0 : decode cX2_pathSet 0 = .ok (.lconst 0, 1) := by decide +kernel
theorem dX2_pathSet_1 : decode cX2_pathSet 1 = .ok (.lstore_n 1, 1) := by decide +kernel
theorem dX2_pathSet_2 : decode cX2_pathSet 2 = .ok (.iconst 0, 1) := by decide +kernel
theorem dX2_pathSet_3 : decode cX2_pathSet 3 = .ok (.istore_n 3, 1) := by decide +kernel
theorem dX2_pathSet_4 : decode cX2_pathSet 4 = .ok (.iload_n 3, 1) := by decide +kernel
theorem dX2_pathSet_5 : decode cX2_pathSet 5 = .ok (.aload_n 0, 1) := by decide +kernel
theorem dX2_pathSet_6 : decode cX2_pathSet 6 = .ok (.getfield 9, 3) := by decide +kernel
theorem dX2_pathSet_9 : decode cX2_pathSet 9 = .ok (.arraylength, 1) := by decide +kernel
theorem dX2_pathSet_10 : decode cX2_pathSet 10 = .ok (.if_icmp .ge 25, 3) := by decide +kernel
theorem dX2_pathSet_13 : decode cX2_pathSet 13 = .ok (.aload_n 0, 1) := by decide +kernel
theorem dX2_pathSet_14 : decode cX2_pathSet 14 = .ok (.getfield 9, 3) := by decide +kernel
theorem dX2_pathSet_17 : decode cX2_pathSet 17 = .ok (.iload_n 3, 1) := by decide +kernel
theorem dX2_pathSet_18 : decode cX2_pathSet 18 = .ok (.iaload, 1) := by decide +kernel
theorem dX2_pathSet_19 : decode cX2_pathSet 19 = .ok (.ifCond .le 10, 3) := by decide +kernel
theorem dX2_pathSet_22 : decode cX2_pathSet 22 = .ok (.lload_n 1, 1) := by decide +kernel
theorem dX2_pathSet_23 : decode cX2_pathSet 23 = .ok (.iload_n 3, 1) := by decide +kernel
theorem dX2_pathSet_24 : decode cX2_pathSet 24 = .ok (.invokestatic 77, 3) := by decide +kernel
theorem dX2_pathSet_27 : decode cX2_pathSet 27 = .ok (.lor, 1) := by decide +kernel
theorem dX2_pathSet_28 : decode cX2_pathSet 28 = .ok (.lstore_n 1, 1) := by decide +kernel
theorem dX2_pathSet_29 : decode cX2_pathSet 29 = .ok (.iinc 3 1, 3) := by decide +kernel
theorem dX2_pathSet_32 : decode cX2_pathSet 32 = .ok (.goto (-28), 3) := by decide +kernel
theorem dX2_pathSet_35 : decode cX2_pathSet 35 = .ok (.lload_n 1, 1) := by decide +kernel
theorem dX2_pathSet_36 : decode cX2_pathSet 36 = .ok (.lreturn, 1) := by decide +kernel
set_option maxRecDepth 20000 in
theorem ggX2_pathCells_X2_pathSet : GoodIn wsX2_pathCells wsX2_pathSet := goodIn_r _ [5, 6, 7, 8, 9, 17, 18, 19, 20, 21, 22, 23, 24] (by decide +kernel) (by decide +kernel)
set_option maxRecDepth 20000 in
theorem gX2_pathCells_X2_pathSet : GoodIn wsX2_pathCells (wsV RX2 103 RX2 yX2_pathSet wsX2_pathSet) := goodIn_app (goodIn_of _ (by decide +kernel)) ggX2_pathCells_X2_pathSet
set_option maxRecDepth 20000 in
theorem ggX2_pathCells_J13_bitCount_95d88 : GoodIn wsX2_pathCells wsJ13_bitCount_95d88 := goodIn_r _ [13, 14, 15, 16] (by decide +kernel) (by decide +kernel)
set_option maxRecDepth 20000 in
theorem gX2_pathCells_J13_bitCount_95d88 : GoodIn wsX2_pathCells (va_wsS RX2 106 yJ13_bitCount_95d88 wsJ13_bitCount_95d88) := goodIn_app (goodIn_of _ (by decide +kernel)) ggX2_pathCells_J13_bitCount_95d88
theorem dX2_pathCells_0 : decode cX2_pathCells 0 = .ok (.aload_n 0, 1) := by decide +kernel
theorem dX2_pathCells_1 : decode cX2_pathCells 1 = .ok (.invokevirtual 103, 3) := by decide +kernel
theorem dX2_pathCells_4 : decode cX2_pathCells 4 = .ok (.invokestatic 106, 3) := by decide +kernel
theorem dX2_pathCells_7 : decode cX2_pathCells 7 = .ok (.ireturn, 1) := by decide +kernel
theorem dX2_pathOfAll_0 : decode cX2_pathOfAll 0 = .ok (.iconst 0, 1) := by decide +kernel
theorem dX2_pathOfAll_1 : decode cX2_pathOfAll 1 = .ok (.istore_n 1, 1) := by decide +kernel
theorem dX2_pathOfAll_2 : decode cX2_pathOfAll 2 = .ok (.iconst 0, 1) := by decide +kernel
theorem dX2_pathOfAll_3 : decode cX2_pathOfAll 3 = .ok (.istore_n 2, 1) := by decide +kernel
theorem dX2_pathOfAll_4 : decode cX2_pathOfAll 4 = .ok (.iload_n 2, 1) := by decide +kernel
theorem dX2_pathOfAll_5 : decode cX2_pathOfAll 5 = .ok (.aload_n 0, 1) := by decide +kernel
theorem dX2_pathOfAll_6 : decode cX2_pathOfAll 6 = .ok (.getfield 9, 3) := by decide +kernel
theorem dX2_pathOfAll_9 : decode cX2_pathOfAll 9 = .ok (.arraylength, 1) := by decide +kernel
theorem dX2_pathOfAll_10 : decode cX2_pathOfAll 10 = .ok (.if_icmp .ge 18, 3) := by decide +kernel
theorem dX2_pathOfAll_13 : decode cX2_pathOfAll 13 = .ok (.iload_n 1, 1) := by decide +kernel
theorem dX2_pathOfAll_14 : decode cX2_pathOfAll 14 = .ok (.aload_n 0, 1) := by decide +kernel
theorem dX2_pathOfAll_15 : decode cX2_pathOfAll 15 = .ok (.getfield 9, 3) := by decide +kernel
theorem dX2_pathOfAll_18 : decode cX2_pathOfAll 18 = .ok (.iload_n 2, 1) := by decide +kernel
theorem dX2_pathOfAll_19 : decode cX2_pathOfAll 19 = .ok (.iaload, 1) := by decide +kernel
theorem dX2_pathOfAll_20 : decode cX2_pathOfAll 20 = .ok (.iadd, 1) := by decide +kernel
theorem dX2_pathOfAll_21 : decode cX2_pathOfAll 21 = .ok (.istore_n 1, 1) := by decide +kernel
theorem dX2_pathOfAll_22 : decode cX2_pathOfAll 22 = .ok (.iinc 2 1, 3) := by decide +kernel
theorem dX2_pathOfAll_25 : decode cX2_pathOfAll 25 = .ok (.goto (-21), 3) := by decide +kernel
theorem dX2_pathOfAll_28 : decode cX2_pathOfAll 28 = .ok (.iload_n 1, 1) := by decide +kernel
theorem dX2_pathOfAll_29 : decode cX2_pathOfAll 29 = .ok (.ireturn, 1) := by decide +kernel
set_option maxRecDepth 20000 in
theorem ggX2_headsOn_X2_seedAt : GoodIn wsX2_headsOn wsX2_seedAt := goodIn_r _ [6, 1, 7, 8, 9, 5, 10, 11, 12, 13, 14, 15, 16, 17, 18, 19] (by decide +kernel) (by decide +kernel)
set_option maxRecDepth 20000 in
theorem gX2_headsOn_X2_seedAt : GoodIn wsX2_headsOn (wsV RX2 58 RX2 yX2_seedAt wsX2_seedAt) := goodIn_app (goodIn_of _ (by decide +kernel)) ggX2_headsOn_X2_seedAt
theorem dX2_headsOn_0 : decode cX2_headsOn 0 = .ok (.iconst 0, 1) := by decide +kernel
theorem dX2_headsOn_1 : decode cX2_headsOn 1 = .ok (.istore_n 2, 1) := by decide +kernel
theorem dX2_headsOn_2 : decode cX2_headsOn 2 = .ok (.iconst 0, 1) := by decide +kernel
theorem dX2_headsOn_3 : decode cX2_headsOn 3 = .ok (.istore_n 3, 1) := by decide +kernel
theorem dX2_headsOn_4 : decode cX2_headsOn 4 = .ok (.iload_n 3, 1) := by decide +kernel
theorem dX2_headsOn_5 : decode cX2_headsOn 5 = .ok (.aload_n 0, 1) := by decide +kernel
theorem dX2_headsOn_6 : decode cX2_headsOn 6 = .ok (.getfield 48, 3) := by decide +kernel
theorem dX2_headsOn_9 : decode cX2_headsOn 9 = .ok (.if_icmp .ge 36, 3) := by decide +kernel
theorem dX2_headsOn_12 : decode cX2_headsOn 12 = .ok (.aload_n 0, 1) := by decide +kernel
theorem dX2_headsOn_13 : decode cX2_headsOn 13 = .ok (.iload_n 3, 1) := by decide +kernel
theorem dX2_headsOn_14 : decode cX2_headsOn 14 = .ok (.invokevirtual 58, 3) := by decide +kernel
theorem dX2_headsOn_17 : decode cX2_headsOn 17 = .ok (.astore 4, 2) := by decide +kernel
theorem dX2_headsOn_19 : decode cX2_headsOn 19 = .ok (.aload 4, 2) := by decide +kernel
theorem dX2_headsOn_21 : decode cX2_headsOn 21 = .ok (.ifnull 18, 3) := by decide +kernel
theorem dX2_headsOn_24 : decode cX2_headsOn 24 = .ok (.aload 4, 2) := by decide +kernel
theorem dX2_headsOn_26 : decode cX2_headsOn 26 = .ok (.getfield 68, 3) := by decide +kernel
theorem dX2_headsOn_29 : decode cX2_headsOn 29 = .ok (.iload_n 1, 1) := by decide +kernel
theorem dX2_headsOn_30 : decode cX2_headsOn 30 = .ok (.if_icmp .ne 9, 3) := by decide +kernel
theorem dX2_headsOn_33 : decode cX2_headsOn 33 = .ok (.iload_n 2, 1) := by decide +kernel
theorem dX2_headsOn_34 : decode cX2_headsOn 34 = .ok (.iconst 1, 1) := by decide +kernel
theorem dX2_headsOn_35 : decode cX2_headsOn 35 = .ok (.iload_n 3, 1) := by decide +kernel
theorem dX2_headsOn_36 : decode cX2_headsOn 36 = .ok (.ishl, 1) := by decide +kernel
theorem dX2_headsOn_37 : decode cX2_headsOn 37 = .ok (.ior, 1) := by decide +kernel
theorem dX2_headsOn_38 : decode cX2_headsOn 38 = .ok (.istore_n 2, 1) := by decide +kernel
theorem dX2_headsOn_39 : decode cX2_headsOn 39 = .ok (.iinc 3 1, 3) := by decide +kernel
theorem dX2_headsOn_42 : decode cX2_headsOn 42 = .ok (.goto (-38), 3) := by decide +kernel
theorem dX2_headsOn_45 : decode cX2_headsOn 45 = .ok (.iload_n 2, 1) := by decide +kernel
theorem dX2_headsOn_46 : decode cX2_headsOn 46 = .ok (.ireturn, 1) := by decide +kernel
set_option maxRecDepth 20000 in
theorem ggX2_aliveSet_X2_seedAt : GoodIn wsX2_aliveSet wsX2_seedAt := goodIn_r _ [6, 1, 7, 8, 9, 5, 10, 11, 23, 24, 25, 26, 27, 28, 29, 30] (by decide +kernel) (by decide +kernel)
set_option maxRecDepth 20000 in
theorem gX2_aliveSet_X2_seedAt : GoodIn wsX2_aliveSet (wsV RX2 58 RX2 yX2_seedAt wsX2_seedAt) := goodIn_app (goodIn_of _ (by decide +kernel)) ggX2_aliveSet_X2_seedAt
set_option maxRecDepth 20000 in
theorem ggX2_aliveSet_X3_isAlive : GoodIn wsX2_aliveSet wsX3_isAlive := goodIn_r _ [16, 17, 18, 19, 20, 15, 21, 22, 31, 32, 33, 34] (by decide +kernel) (by decide +kernel)
set_option maxRecDepth 20000 in
theorem gX2_aliveSet_X3_isAlive : GoodIn wsX2_aliveSet (wsV RX2 112 RX3 yX3_isAlive wsX3_isAlive) := goodIn_app (goodIn_of _ (by decide +kernel)) ggX2_aliveSet_X3_isAlive
theorem dX2_aliveSet_0 : decode cX2_aliveSet 0 = .ok (.iconst 0, 1) := by decide +kernel
theorem dX2_aliveSet_1 : decode cX2_aliveSet 1 = .ok (.istore_n 1, 1) := by decide +kernel
theorem dX2_aliveSet_2 : decode cX2_aliveSet 2 = .ok (.iconst 0, 1) := by decide +kernel
theorem dX2_aliveSet_3 : decode cX2_aliveSet 3 = .ok (.istore_n 2, 1) := by decide +kernel
theorem dX2_aliveSet_4 : decode cX2_aliveSet 4 = .ok (.iload_n 2, 1) := by decide +kernel
theorem dX2_aliveSet_5 : decode cX2_aliveSet 5 = .ok (.aload_n 0, 1) := by decide +kernel
theorem dX2_aliveSet_6 : decode cX2_aliveSet 6 = .ok (.getfield 48, 3) := by decide +kernel
theorem dX2_aliveSet_9 : decode cX2_aliveSet 9 = .ok (.if_icmp .ge 32, 3) := by decide +kernel
theorem dX2_aliveSet_12 : decode cX2_aliveSet 12 = .ok (.aload_n 0, 1) := by decide +kernel
theorem dX2_aliveSet_13 : decode cX2_aliveSet 13 = .ok (.iload_n 2, 1) := by decide +kernel
theorem dX2_aliveSet_14 : decode cX2_aliveSet 14 = .ok (.invokevirtual 58, 3) := by decide +kernel
theorem dX2_aliveSet_17 : decode cX2_aliveSet 17 = .ok (.astore_n 3, 1) := by decide +kernel
theorem dX2_aliveSet_18 : decode cX2_aliveSet 18 = .ok (.aload_n 3, 1) := by decide +kernel
theorem dX2_aliveSet_19 : decode cX2_aliveSet 19 = .ok (.ifnull 16, 3) := by decide +kernel
theorem dX2_aliveSet_22 : decode cX2_aliveSet 22 = .ok (.aload_n 3, 1) := by decide +kernel
theorem dX2_aliveSet_23 : decode cX2_aliveSet 23 = .ok (.invokevirtual 112, 3) := by decide +kernel
theorem dX2_aliveSet_26 : decode cX2_aliveSet 26 = .ok (.ifCond .eq 9, 3) := by decide +kernel
theorem dX2_aliveSet_29 : decode cX2_aliveSet 29 = .ok (.iload_n 1, 1) := by decide +kernel
theorem dX2_aliveSet_30 : decode cX2_aliveSet 30 = .ok (.iconst 1, 1) := by decide +kernel
theorem dX2_aliveSet_31 : decode cX2_aliveSet 31 = .ok (.iload_n 2, 1) := by decide +kernel
theorem dX2_aliveSet_32 : decode cX2_aliveSet 32 = .ok (.ishl, 1) := by decide +kernel
theorem dX2_aliveSet_33 : decode cX2_aliveSet 33 = .ok (.ior, 1) := by decide +kernel
theorem dX2_aliveSet_34 : decode cX2_aliveSet 34 = .ok (.istore_n 1, 1) := by decide +kernel
theorem dX2_aliveSet_35 : decode cX2_aliveSet 35 = .ok (.iinc 2 1, 3) := by decide +kernel
theorem dX2_aliveSet_38 : decode cX2_aliveSet 38 = .ok (.goto (-34), 3) := by decide +kernel
theorem dX2_aliveSet_41 : decode cX2_aliveSet 41 = .ok (.iload_n 1, 1) := by decide +kernel
theorem dX2_aliveSet_42 : decode cX2_aliveSet 42 = .ok (.ireturn, 1) := by decide +kernel
theorem dX2_spotsHeld_0 : decode cX2_spotsHeld 0 = .ok (.iconst 0, 1) := by decide +kernel
theorem dX2_spotsHeld_1 : decode cX2_spotsHeld 1 = .ok (.istore_n 1, 1) := by decide +kernel
theorem dX2_spotsHeld_2 : decode cX2_spotsHeld 2 = .ok (.iconst 0, 1) := by decide +kernel
theorem dX2_spotsHeld_3 : decode cX2_spotsHeld 3 = .ok (.istore_n 2, 1) := by decide +kernel
theorem dX2_spotsHeld_4 : decode cX2_spotsHeld 4 = .ok (.iload_n 2, 1) := by decide +kernel
theorem dX2_spotsHeld_5 : decode cX2_spotsHeld 5 = .ok (.aload_n 0, 1) := by decide +kernel
theorem dX2_spotsHeld_6 : decode cX2_spotsHeld 6 = .ok (.getfield 19, 3) := by decide +kernel
theorem dX2_spotsHeld_9 : decode cX2_spotsHeld 9 = .ok (.arraylength, 1) := by decide +kernel
theorem dX2_spotsHeld_10 : decode cX2_spotsHeld 10 = .ok (.if_icmp .ge 22, 3) := by decide +kernel
theorem dX2_spotsHeld_13 : decode cX2_spotsHeld 13 = .ok (.aload_n 0, 1) := by decide +kernel
theorem dX2_spotsHeld_14 : decode cX2_spotsHeld 14 = .ok (.getfield 19, 3) := by decide +kernel
theorem dX2_spotsHeld_17 : decode cX2_spotsHeld 17 = .ok (.iload_n 2, 1) := by decide +kernel
theorem dX2_spotsHeld_18 : decode cX2_spotsHeld 18 = .ok (.iaload, 1) := by decide +kernel
theorem dX2_spotsHeld_19 : decode cX2_spotsHeld 19 = .ok (.iconst (-1), 1) := by decide +kernel
theorem dX2_spotsHeld_20 : decode cX2_spotsHeld 20 = .ok (.if_icmp .eq 6, 3) := by decide +kernel
theorem dX2_spotsHeld_23 : decode cX2_spotsHeld 23 = .ok (.iinc 1 1, 3) := by decide +kernel
theorem dX2_spotsHeld_26 : decode cX2_spotsHeld 26 = .ok (.iinc 2 1, 3) := by decide +kernel
theorem dX2_spotsHeld_29 : decode cX2_spotsHeld 29 = .ok (.goto (-25), 3) := by decide +kernel
theorem dX2_spotsHeld_32 : decode cX2_spotsHeld 32 = .ok (.iload_n 1, 1) := by decide +kernel
theorem dX2_spotsHeld_33 : decode cX2_spotsHeld 33 = .ok (.ireturn, 1) := by decide +kernel
theorem dX2_draw_0 : decode cX2_draw 0 = .ok (.aload_n 0, 1) := by decide +kernel
theorem dX2_draw_1 : decode cX2_draw 1 = .ok (.aload_n 0, 1) := by decide +kernel
theorem dX2_draw_2 : decode cX2_draw 2 = .ok (.getfield 15, 3) := by decide +kernel
theorem dX2_draw_5 : decode cX2_draw 5 = .ok (.ldc 116, 2) := by decide +kernel
theorem dX2_draw_7 : decode cX2_draw 7 = .ok (.imul, 1) := by decide +kernel
theorem dX2_draw_8 : decode cX2_draw 8 = .ok (.sipush 12345, 3) := by decide +kernel
theorem dX2_draw_11 : decode cX2_draw 11 = .ok (.iadd, 1) := by decide +kernel
theorem dX2_draw_12 : decode cX2_draw 12 = .ok (.putfield 15, 3) := by decide +kernel
theorem dX2_draw_15 : decode cX2_draw 15 = .ok (.aload_n 0, 1) := by decide +kernel
theorem dX2_draw_16 : decode cX2_draw 16 = .ok (.getfield 15, 3) := by decide +kernel
theorem dX2_draw_19 : decode cX2_draw 19 = .ok (.bipush 8, 2) := by decide +kernel
theorem dX2_draw_21 : decode cX2_draw 21 = .ok (.iushr, 1) := by decide +kernel
theorem dX2_draw_22 : decode cX2_draw 22 = .ok (.ireturn, 1) := by decide +kernel
set_option maxRecDepth 20000 in
theorem ggX2_pass_X2_seedAt : GoodIn wsX2_pass wsX2_seedAt := goodIn_r _ [16, 6, 17, 18, 19, 15, 20, 21, 93, 94, 95, 96, 97, 98, 99, 100] (by decide +kernel) (by decide +kernel)
set_option maxRecDepth 20000 in
theorem gX2_pass_X2_seedAt : GoodIn wsX2_pass (wsV RX2 58 RX2 yX2_seedAt wsX2_seedAt) := goodIn_app (goodIn_of _ (by decide +kernel)) ggX2_pass_X2_seedAt
set_option maxRecDepth 20000 in
theorem ggX2_pass_X3_isAlive : GoodIn wsX2_pass wsX3_isAlive := goodIn_r _ [26, 27, 28, 29, 30, 25, 31, 32, 101, 102, 103, 104] (by decide +kernel) (by decide +kernel)
set_option maxRecDepth 20000 in
theorem gX2_pass_X3_isAlive : GoodIn wsX2_pass (wsV RX2 112 RX3 yX3_isAlive wsX3_isAlive) := goodIn_app (goodIn_of _ (by decide +kernel)) ggX2_pass_X3_isAlive
set_option maxRecDepth 20000 in
theorem ggX2_pass_X2_advance : GoodIn wsX2_pass wsX2_advance := goodIn_r _ [36, 37, 38, 39, 15, 40, 7, 41, 42, 43, 44, 45, 46, 47, 48, 49, 50, 51, 52, 53, 54, 55, 56, 57, 58, 59, 60, 61, 62, 63, 64, 65, 6, 12, 13, 14, 16, 17, 18, 19, 20, 21, 22, 23, 24, 25, 26, 27, 28, 29, 30, 31, 32, 66, 67, 68, 69, 70, 71, 72, 73, 74, 75, 76, 77, 78, 79, 80, 1, 81, 82, 83, 84, 85, 86, 87, 88, 89, 90, 91, 92, 101, 102, 103, 104, 93, 94, 95, 96, 97, 98, 99, 100] (by decide +kernel) (by decide +kernel)
set_option maxRecDepth 20000 in
theorem gX2_pass_X2_advance : GoodIn wsX2_pass (wsV RX2 122 RX2 yX2_advance wsX2_advance) := goodIn_app (goodIn_of _ (by decide +kernel)) ggX2_pass_X2_advance
theorem dX2_pass_0 : decode cX2_pass 0 = .ok (.iconst 0, 1) := by decide +kernel
theorem dX2_pass_1 : decode cX2_pass 1 = .ok (.istore_n 2, 1) := by decide +kernel
theorem dX2_pass_2 : decode cX2_pass 2 = .ok (.iload_n 2, 1) := by decide +kernel
theorem dX2_pass_3 : decode cX2_pass 3 = .ok (.iload_n 1, 1) := by decide +kernel
theorem dX2_pass_4 : decode cX2_pass 4 = .ok (.if_icmp .ge 101, 3) := by decide +kernel
theorem dX2_pass_7 : decode cX2_pass 7 = .ok (.iconst 0, 1) := by decide +kernel
theorem dX2_pass_8 : decode cX2_pass 8 = .ok (.istore_n 3, 1) := by decide +kernel
theorem dX2_pass_9 : decode cX2_pass 9 = .ok (.iload_n 3, 1) := by decide +kernel
theorem dX2_pass_10 : decode cX2_pass 10 = .ok (.aload_n 0, 1) := by decide +kernel
theorem dX2_pass_11 : decode cX2_pass 11 = .ok (.getfield 9, 3) := by decide +kernel
theorem dX2_pass_14 : decode cX2_pass 14 = .ok (.arraylength, 1) := by decide +kernel
theorem dX2_pass_15 : decode cX2_pass 15 = .ok (.if_icmp .ge 27, 3) := by decide +kernel
theorem dX2_pass_18 : decode cX2_pass 18 = .ok (.aload_n 0, 1) := by decide +kernel
theorem dX2_pass_19 : decode cX2_pass 19 = .ok (.getfield 9, 3) := by decide +kernel
theorem dX2_pass_22 : decode cX2_pass 22 = .ok (.iload_n 3, 1) := by decide +kernel
theorem dX2_pass_23 : decode cX2_pass 23 = .ok (.iconst 0, 1) := by decide +kernel
theorem dX2_pass_24 : decode cX2_pass 24 = .ok (.aload_n 0, 1) := by decide +kernel
theorem dX2_pass_25 : decode cX2_pass 25 = .ok (.getfield 9, 3) := by decide +kernel
theorem dX2_pass_28 : decode cX2_pass 28 = .ok (.iload_n 3, 1) := by decide +kernel
theorem dX2_pass_29 : decode cX2_pass 29 = .ok (.iaload, 1) := by decide +kernel
theorem dX2_pass_30 : decode cX2_pass 30 = .ok (.iconst 1, 1) := by decide +kernel
theorem dX2_pass_31 : decode cX2_pass 31 = .ok (.isub, 1) := by decide +kernel
theorem dX2_pass_32 : decode cX2_pass 32 = .ok (.invokestatic 117, 3) := by decide +kernel
theorem dX2_pass_35 : decode cX2_pass 35 = .ok (.iastore, 1) := by decide +kernel
theorem dX2_pass_36 : decode cX2_pass 36 = .ok (.iinc 3 1, 3) := by decide +kernel
theorem dX2_pass_39 : decode cX2_pass 39 = .ok (.goto (-30), 3) := by decide +kernel
theorem dX2_pass_42 : decode cX2_pass 42 = .ok (.iconst 0, 1) := by decide +kernel
theorem dX2_pass_43 : decode cX2_pass 43 = .ok (.istore_n 3, 1) := by decide +kernel
theorem dX2_pass_44 : decode cX2_pass 44 = .ok (.iload_n 3, 1) := by decide +kernel
theorem dX2_pass_45 : decode cX2_pass 45 = .ok (.aload_n 0, 1) := by decide +kernel
theorem dX2_pass_46 : decode cX2_pass 46 = .ok (.getfield 48, 3) := by decide +kernel
theorem dX2_pass_49 : decode cX2_pass 49 = .ok (.if_icmp .ge 35, 3) := by decide +kernel
theorem dX2_pass_52 : decode cX2_pass 52 = .ok (.aload_n 0, 1) := by decide +kernel
theorem dX2_pass_53 : decode cX2_pass 53 = .ok (.iload_n 3, 1) := by decide +kernel
theorem dX2_pass_54 : decode cX2_pass 54 = .ok (.invokevirtual 58, 3) := by decide +kernel
theorem dX2_pass_57 : decode cX2_pass 57 = .ok (.astore 4, 2) := by decide +kernel
theorem dX2_pass_59 : decode cX2_pass 59 = .ok (.aload 4, 2) := by decide +kernel
theorem dX2_pass_61 : decode cX2_pass 61 = .ok (.ifnull 17, 3) := by decide +kernel
theorem dX2_pass_64 : decode cX2_pass 64 = .ok (.aload 4, 2) := by decide +kernel
theorem dX2_pass_66 : decode cX2_pass 66 = .ok (.invokevirtual 112, 3) := by decide +kernel
theorem dX2_pass_69 : decode cX2_pass 69 = .ok (.ifCond .eq 9, 3) := by decide +kernel
theorem dX2_pass_72 : decode cX2_pass 72 = .ok (.aload_n 0, 1) := by decide +kernel
theorem dX2_pass_73 : decode cX2_pass 73 = .ok (.aload 4, 2) := by decide +kernel
theorem dX2_pass_75 : decode cX2_pass 75 = .ok (.invokevirtual 122, 3) := by decide +kernel
theorem dX2_pass_78 : decode cX2_pass 78 = .ok (.iinc 3 1, 3) := by decide +kernel
theorem dX2_pass_81 : decode cX2_pass 81 = .ok (.goto (-37), 3) := by decide +kernel
theorem dX2_pass_84 : decode cX2_pass 84 = .ok (.aload_n 0, 1) := by decide +kernel
theorem dX2_pass_85 : decode cX2_pass 85 = .ok (.aload_n 0, 1) := by decide +kernel
theorem dX2_pass_86 : decode cX2_pass 86 = .ok (.getfield 51, 3) := by decide +kernel
theorem dX2_pass_89 : decode cX2_pass 89 = .ok (.iconst 1, 1) := by decide +kernel
theorem dX2_pass_90 : decode cX2_pass 90 = .ok (.iadd, 1) := by decide +kernel
theorem dX2_pass_91 : decode cX2_pass 91 = .ok (.ldc 125, 2) := by decide +kernel
theorem dX2_pass_93 : decode cX2_pass 93 = .ok (.invokestatic 126, 3) := by decide +kernel
theorem dX2_pass_96 : decode cX2_pass 96 = .ok (.putfield 51, 3) := by decide +kernel
theorem dX2_pass_99 : decode cX2_pass 99 = .ok (.iinc 2 1, 3) := by decide +kernel
theorem dX2_pass_102 : decode cX2_pass 102 = .ok (.goto (-100), 3) := by decide +kernel
theorem dX2_pass_105 : decode cX2_pass 105 = .ok (.return_, 1) := by decide +kernel
set_option maxRecDepth 20000 in
theorem ggX2_advance_X2_turnOf : GoodIn wsX2_advance wsX2_turnOf := goodIn_r _ [5, 6, 7, 8, 9, 10, 11, 12, 13, 4, 14, 15, 16, 17, 18, 19, 20, 21, 22, 23, 24, 25, 26, 27, 28, 29, 30, 31, 32, 33, 34, 35, 36, 37, 38, 39, 40, 41, 42, 43, 44, 45, 46, 47, 48, 49, 50, 51, 52, 81, 82, 83, 84, 85, 86, 87, 88, 89, 90, 91, 92] (by decide +kernel) (by decide +kernel)
set_option maxRecDepth 20000 in
theorem gX2_advance_X2_turnOf : GoodIn wsX2_advance (wsV RX2 129 RX2 yX2_turnOf wsX2_turnOf) := goodIn_app (goodIn_of _ (by decide +kernel)) ggX2_advance_X2_turnOf
set_option maxRecDepth 20000 in
theorem ggX2_advance_X0_neighbour : GoodIn wsX2_advance wsX0_neighbour := goodIn_r _ [27] (by decide +kernel) (by decide +kernel)
set_option maxRecDepth 20000 in
theorem gX2_advance_X0_neighbour : GoodIn wsX2_advance (va_wsS RX2 133 yX0_neighbour wsX0_neighbour) := goodIn_app (goodIn_of _ (by decide +kernel)) ggX2_advance_X0_neighbour
set_option maxRecDepth 20000 in
theorem ggX2_advance_X2_isGrass : GoodIn wsX2_advance wsX2_isGrass := goodIn_r _ [56, 57, 58, 59, 4, 60, 61, 15, 62, 63, 16, 17, 18, 85, 86, 87, 88, 89, 90, 91, 92] (by decide +kernel) (by decide +kernel)
set_option maxRecDepth 20000 in
theorem gX2_advance_X2_isGrass : GoodIn wsX2_advance (wsV RX2 99 RX2 yX2_isGrass wsX2_isGrass) := goodIn_app (goodIn_of _ (by decide +kernel)) ggX2_advance_X2_isGrass
set_option maxRecDepth 20000 in
theorem ggX2_advance_X0_turned : GoodIn wsX2_advance wsX0_turned := goodIn_r _ [10] (by decide +kernel) (by decide +kernel)
set_option maxRecDepth 20000 in
theorem gX2_advance_X0_turned : GoodIn wsX2_advance (va_wsS RX2 136 yX0_turned wsX0_turned) := goodIn_app (goodIn_of _ (by decide +kernel)) ggX2_advance_X0_turned
set_option maxRecDepth 20000 in
theorem ggX2_advance_X2_pathOf : GoodIn wsX2_advance wsX2_pathOf := goodIn_r _ [67, 68, 69, 17, 70, 85, 86, 87, 88, 89, 90, 91, 92] (by decide +kernel) (by decide +kernel)
set_option maxRecDepth 20000 in
theorem gX2_advance_X2_pathOf : GoodIn wsX2_advance (wsV RX2 139 RX2 yX2_pathOf wsX2_pathOf) := goodIn_app (goodIn_of _ (by decide +kernel)) ggX2_advance_X2_pathOf
set_option maxRecDepth 20000 in
theorem ggX2_advance_X3_treads : GoodIn wsX2_advance wsX3_treads := goodIn_r _ [74, 52, 81, 82, 83, 84] (by decide +kernel) (by decide +kernel)
set_option maxRecDepth 20000 in
theorem gX2_advance_X3_treads : GoodIn wsX2_advance (wsV RX2 143 RX3 yX3_treads wsX3_treads) := goodIn_app (goodIn_of _ (by decide +kernel)) ggX2_advance_X3_treads
set_option maxRecDepth 20000 in
theorem ggX2_advance_X2_becomePath : GoodIn wsX2_advance wsX2_becomePath := goodIn_r _ [78, 68, 53, 54, 55, 4, 56, 57, 58, 59, 60, 61, 15, 62, 63, 16, 17, 18, 79, 80, 85, 86, 87, 88, 89, 90, 91, 92] (by decide +kernel) (by decide +kernel)
set_option maxRecDepth 20000 in
theorem gX2_advance_X2_becomePath : GoodIn wsX2_advance (wsV RX2 147 RX2 yX2_becomePath wsX2_becomePath) := goodIn_app (goodIn_of _ (by decide +kernel)) ggX2_advance_X2_becomePath
theorem dX2_advance_0 : decode cX2_advance 0 = .ok (.aload_n 1, 1) := by decide +kernel
theorem dX2_advance_1 : decode cX2_advance 1 = .ok (.aload_n 0, 1) := by decide +kernel
theorem dX2_advance_2 : decode cX2_advance 2 = .ok (.aload_n 1, 1) := by decide +kernel
theorem dX2_advance_3 : decode cX2_advance 3 = .ok (.invokevirtual 129, 3) := by decide +kernel
theorem dX2_advance_6 : decode cX2_advance 6 = .ok (.putfield 71, 3) := by decide +kernel
theorem dX2_advance_9 : decode cX2_advance 9 = .ok (.aload_n 1, 1) := by decide +kernel
theorem dX2_advance_10 : decode cX2_advance 10 = .ok (.getfield 68, 3) := by decide +kernel
theorem dX2_advance_13 : decode cX2_advance 13 = .ok (.aload_n 1, 1) := by decide +kernel
theorem dX2_advance_14 : decode cX2_advance 14 = .ok (.getfield 71, 3) := by decide +kernel
theorem dX2_advance_17 : decode cX2_advance 17 = .ok (.invokestatic 133, 3) := by decide +kernel
theorem dX2_advance_20 : decode cX2_advance 20 = .ok (.istore_n 2, 1) := by decide +kernel
theorem dX2_advance_21 : decode cX2_advance 21 = .ok (.iload_n 2, 1) := by decide +kernel
theorem dX2_advance_22 : decode cX2_advance 22 = .ok (.ifCond .lt 19, 3) := by decide +kernel
theorem dX2_advance_25 : decode cX2_advance 25 = .ok (.aload_n 0, 1) := by decide +kernel
theorem dX2_advance_26 : decode cX2_advance 26 = .ok (.iload_n 2, 1) := by decide +kernel
theorem dX2_advance_27 : decode cX2_advance 27 = .ok (.invokevirtual 99, 3) := by decide +kernel
theorem dX2_advance_30 : decode cX2_advance 30 = .ok (.ifCond .eq 11, 3) := by decide +kernel
theorem dX2_advance_33 : decode cX2_advance 33 = .ok (.aload_n 1, 1) := by decide +kernel
theorem dX2_advance_34 : decode cX2_advance 34 = .ok (.iload_n 2, 1) := by decide +kernel
theorem dX2_advance_35 : decode cX2_advance 35 = .ok (.putfield 68, 3) := by decide +kernel
theorem dX2_advance_38 : decode cX2_advance 38 = .ok (.goto 15, 3) := by decide +kernel
theorem dX2_advance_41 : decode cX2_advance 41 = .ok (.aload_n 1, 1) := by decide +kernel
theorem dX2_advance_42 : decode cX2_advance 42 = .ok (.aload_n 1, 1) := by decide +kernel
theorem dX2_advance_43 : decode cX2_advance 43 = .ok (.getfield 71, 3) := by decide +kernel
theorem dX2_advance_46 : decode cX2_advance 46 = .ok (.iconst 1, 1) := by decide +kernel
theorem dX2_advance_47 : decode cX2_advance 47 = .ok (.invokestatic 136, 3) := by decide +kernel
theorem dX2_advance_50 : decode cX2_advance 50 = .ok (.putfield 71, 3) := by decide +kernel
theorem dX2_advance_53 : decode cX2_advance 53 = .ok (.aload_n 0, 1) := by decide +kernel
theorem dX2_advance_54 : decode cX2_advance 54 = .ok (.aload_n 1, 1) := by decide +kernel
theorem dX2_advance_55 : decode cX2_advance 55 = .ok (.getfield 68, 3) := by decide +kernel
theorem dX2_advance_58 : decode cX2_advance 58 = .ok (.invokevirtual 139, 3) := by decide +kernel
theorem dX2_advance_61 : decode cX2_advance 61 = .ok (.aload_n 1, 1) := by decide +kernel
theorem dX2_advance_62 : decode cX2_advance 62 = .ok (.invokevirtual 143, 3) := by decide +kernel
theorem dX2_advance_65 : decode cX2_advance 65 = .ok (.if_icmp .ge 15, 3) := by decide +kernel
theorem dX2_advance_68 : decode cX2_advance 68 = .ok (.aload_n 0, 1) := by decide +kernel
theorem dX2_advance_69 : decode cX2_advance 69 = .ok (.aload_n 1, 1) := by decide +kernel
theorem dX2_advance_70 : decode cX2_advance 70 = .ok (.getfield 68, 3) := by decide +kernel
theorem dX2_advance_73 : decode cX2_advance 73 = .ok (.aload_n 1, 1) := by decide +kernel
theorem dX2_advance_74 : decode cX2_advance 74 = .ok (.invokevirtual 143, 3) := by decide +kernel
theorem dX2_advance_77 : decode cX2_advance 77 = .ok (.invokevirtual 147, 3) := by decide +kernel
theorem dX2_advance_80 : decode cX2_advance 80 = .ok (.aload_n 1, 1) := by decide +kernel
theorem dX2_advance_81 : decode cX2_advance 81 = .ok (.dup, 1) := by decide +kernel
theorem dX2_advance_82 : decode cX2_advance 82 = .ok (.getfield 74, 3) := by decide +kernel
theorem dX2_advance_85 : decode cX2_advance 85 = .ok (.iconst 1, 1) := by decide +kernel
theorem dX2_advance_86 : decode cX2_advance 86 = .ok (.iadd, 1) := by decide +kernel
theorem dX2_advance_87 : decode cX2_advance 87 = .ok (.putfield 74, 3) := by decide +kernel
theorem dX2_advance_90 : decode cX2_advance 90 = .ok (.return_, 1) := by decide +kernel
set_option maxRecDepth 20000 in
theorem ggX2_turnOf_X0_turned : GoodIn wsX2_turnOf wsX0_turned := goodIn_r _ [5] (by decide +kernel) (by decide +kernel)
set_option maxRecDepth 20000 in
theorem gX2_turnOf_X0_turned : GoodIn wsX2_turnOf (va_wsS RX2 136 yX0_turned wsX0_turned) := goodIn_app (goodIn_of _ (by decide +kernel)) ggX2_turnOf_X0_turned
set_option maxRecDepth 20000 in
theorem ggX2_turnOf_X2_nearestWater : GoodIn wsX2_turnOf wsX2_nearestWater := goodIn_r _ [10, 11, 12, 13, 14, 15, 16, 4, 17, 53, 54, 55, 56, 57, 58, 59, 60, 49, 50, 51, 52] (by decide +kernel) (by decide +kernel)
set_option maxRecDepth 20000 in
theorem gX2_turnOf_X2_nearestWater : GoodIn wsX2_turnOf (wsV RX2 151 RX2 yX2_nearestWater wsX2_nearestWater) := goodIn_app (goodIn_of _ (by decide +kernel)) ggX2_turnOf_X2_nearestWater
set_option maxRecDepth 20000 in
theorem ggX2_turnOf_X2_toward : GoodIn wsX2_turnOf wsX2_toward := goodIn_r _ [20, 15, 16, 4, 17, 21, 22, 23, 49, 50, 51, 52] (by decide +kernel) (by decide +kernel)
set_option maxRecDepth 20000 in
theorem gX2_turnOf_X2_toward : GoodIn wsX2_turnOf (va_wsS RX2 154 yX2_toward wsX2_toward) := goodIn_app (goodIn_of _ (by decide +kernel)) ggX2_turnOf_X2_toward
set_option maxRecDepth 20000 in
theorem ggX2_turnOf_X2_nearestCompany : GoodIn wsX2_turnOf wsX2_nearestCompany := goodIn_r _ [27, 28, 29, 30, 31, 9, 32, 33, 34, 35, 36, 37, 38, 39, 40, 41, 42, 43, 44, 45, 46, 47, 48, 15, 16, 4, 17, 6, 7, 8, 10, 11, 12, 13, 14, 53, 54, 55, 56, 57, 58, 59, 60, 49, 50, 51, 52] (by decide +kernel) (by decide +kernel)
set_option maxRecDepth 20000 in
theorem gX2_turnOf_X2_nearestCompany : GoodIn wsX2_turnOf (wsV RX2 158 RX2 yX2_nearestCompany wsX2_nearestCompany) := goodIn_app (goodIn_of _ (by decide +kernel)) ggX2_turnOf_X2_nearestCompany
theorem dX2_turnOf_0 : decode cX2_turnOf 0 = .ok (.aload_n 1, 1) := by decide +kernel
theorem dX2_turnOf_1 : decode cX2_turnOf 1 = .ok (.getfield 65, 3) := by decide +kernel
theorem dX2_turnOf_4 : decode cX2_turnOf 4 = .ok (.tableswitch 98 2 6 #[50, 60, 70, 89, 36], 36) := by decide +kernel
theorem dX2_turnOf_40 : decode cX2_turnOf 40 = .ok (.aload_n 1, 1) := by decide +kernel
theorem dX2_turnOf_41 : decode cX2_turnOf 41 = .ok (.getfield 71, 3) := by decide +kernel
theorem dX2_turnOf_44 : decode cX2_turnOf 44 = .ok (.aload_n 1, 1) := by decide +kernel
theorem dX2_turnOf_45 : decode cX2_turnOf 45 = .ok (.getfield 74, 3) := by decide +kernel
theorem dX2_turnOf_48 : decode cX2_turnOf 48 = .ok (.iconst 1, 1) := by decide +kernel
theorem dX2_turnOf_49 : decode cX2_turnOf 49 = .ok (.iand, 1) := by decide +kernel
theorem dX2_turnOf_50 : decode cX2_turnOf 50 = .ok (.invokestatic 136, 3) := by decide +kernel
theorem dX2_turnOf_53 : decode cX2_turnOf 53 = .ok (.ireturn, 1) := by decide +kernel
theorem dX2_turnOf_54 : decode cX2_turnOf 54 = .ok (.aload_n 1, 1) := by decide +kernel
theorem dX2_turnOf_55 : decode cX2_turnOf 55 = .ok (.aload_n 0, 1) := by decide +kernel
theorem dX2_turnOf_56 : decode cX2_turnOf 56 = .ok (.aload_n 1, 1) := by decide +kernel
theorem dX2_turnOf_57 : decode cX2_turnOf 57 = .ok (.invokevirtual 151, 3) := by decide +kernel
theorem dX2_turnOf_60 : decode cX2_turnOf 60 = .ok (.invokestatic 154, 3) := by decide +kernel
theorem dX2_turnOf_63 : decode cX2_turnOf 63 = .ok (.ireturn, 1) := by decide +kernel
theorem dX2_turnOf_64 : decode cX2_turnOf 64 = .ok (.aload_n 1, 1) := by decide +kernel
theorem dX2_turnOf_65 : decode cX2_turnOf 65 = .ok (.aload_n 0, 1) := by decide +kernel
theorem dX2_turnOf_66 : decode cX2_turnOf 66 = .ok (.aload_n 1, 1) := by decide +kernel
theorem dX2_turnOf_67 : decode cX2_turnOf 67 = .ok (.invokevirtual 158, 3) := by decide +kernel
theorem dX2_turnOf_70 : decode cX2_turnOf 70 = .ok (.invokestatic 154, 3) := by decide +kernel
theorem dX2_turnOf_73 : decode cX2_turnOf 73 = .ok (.ireturn, 1) := by decide +kernel
theorem dX2_turnOf_74 : decode cX2_turnOf 74 = .ok (.aload_n 1, 1) := by decide +kernel
theorem dX2_turnOf_75 : decode cX2_turnOf 75 = .ok (.aload_n 0, 1) := by decide +kernel
theorem dX2_turnOf_76 : decode cX2_turnOf 76 = .ok (.aload_n 1, 1) := by decide +kernel
theorem dX2_turnOf_77 : decode cX2_turnOf 77 = .ok (.invokevirtual 158, 3) := by decide +kernel
theorem dX2_turnOf_80 : decode cX2_turnOf 80 = .ok (.invokestatic 154, 3) := by decide +kernel
theorem dX2_turnOf_83 : decode cX2_turnOf 83 = .ok (.aload_n 0, 1) := by decide +kernel
theorem dX2_turnOf_84 : decode cX2_turnOf 84 = .ok (.getfield 51, 3) := by decide +kernel
theorem dX2_turnOf_87 : decode cX2_turnOf 87 = .ok (.iconst 1, 1) := by decide +kernel
theorem dX2_turnOf_88 : decode cX2_turnOf 88 = .ok (.iand, 1) := by decide +kernel
theorem dX2_turnOf_89 : decode cX2_turnOf 89 = .ok (.invokestatic 136, 3) := by decide +kernel
theorem dX2_turnOf_92 : decode cX2_turnOf 92 = .ok (.ireturn, 1) := by decide +kernel
theorem dX2_turnOf_93 : decode cX2_turnOf 93 = .ok (.aload_n 1, 1) := by decide +kernel
theorem dX2_turnOf_94 : decode cX2_turnOf 94 = .ok (.getfield 71, 3) := by decide +kernel
theorem dX2_turnOf_97 : decode cX2_turnOf 97 = .ok (.iconst 1, 1) := by decide +kernel
theorem dX2_turnOf_98 : decode cX2_turnOf 98 = .ok (.invokestatic 136, 3) := by decide +kernel
theorem dX2_turnOf_101 : decode cX2_turnOf 101 = .ok (.ireturn, 1) := by decide +kernel
theorem dX2_turnOf_102 : decode cX2_turnOf 102 = .ok (.aload_n 1, 1) := by decide +kernel
theorem dX2_turnOf_103 : decode cX2_turnOf 103 = .ok (.getfield 71, 3) := by decide +kernel
theorem dX2_turnOf_106 : decode cX2_turnOf 106 = .ok (.ireturn, 1) := by decide +kernel
set_option maxRecDepth 20000 in
theorem ggX2_nearestWater_X6_bit : GoodIn wsX2_nearestWater wsX6_bit := goodIn_r _ [4] (by decide +kernel) (by decide +kernel)
set_option maxRecDepth 20000 in
theorem gX2_nearestWater_X6_bit_n77 : GoodIn wsX2_nearestWater (wsX6_bit) := ggX2_nearestWater_X6_bit
set_option maxRecDepth 20000 in
theorem ggX2_nearestWater_X0_distance : GoodIn wsX2_nearestWater wsX0_distance := goodIn_r _ [8] (by decide +kernel) (by decide +kernel)
set_option maxRecDepth 20000 in
theorem gX2_nearestWater_X0_distance : GoodIn wsX2_nearestWater (va_wsS RX2 161 yX0_distance wsX0_distance) := goodIn_app (goodIn_of _ (by decide +kernel)) ggX2_nearestWater_X0_distance
theorem dX2_nearestWater_0 : decode cX2_nearestWater 0 = .ok (.iconst (-1), 1) := by decide +kernel
theorem dX2_nearestWater_1 : decode cX2_nearestWater 1 = .ok (.istore_n 2, 1) := by decide +kernel
theorem dX2_nearestWater_2 : decode cX2_nearestWater 2 = .ok (.bipush 36, 2) := by decide +kernel
theorem dX2_nearestWater_4 : decode cX2_nearestWater 4 = .ok (.istore_n 3, 1) := by decide +kernel
theorem dX2_nearestWater_5 : decode cX2_nearestWater 5 = .ok (.iconst 0, 1) := by decide +kernel
theorem dX2_nearestWater_6 : decode cX2_nearestWater 6 = .ok (.istore 4, 2) := by decide +kernel
theorem dX2_nearestWater_8 : decode cX2_nearestWater 8 = .ok (.iload 4, 2) := by decide +kernel
theorem dX2_nearestWater_10 : decode cX2_nearestWater 10 = .ok (.bipush 36, 2) := by decide +kernel
theorem dX2_nearestWater_12 : decode cX2_nearestWater 12 = .ok (.if_icmp .ge 50, 3) := by decide +kernel
theorem dX2_nearestWater_15 : decode cX2_nearestWater 15 = .ok (.aload_n 0, 1) := by decide +kernel
theorem dX2_nearestWater_16 : decode cX2_nearestWater 16 = .ok (.getfield 33, 3) := by decide +kernel
theorem dX2_nearestWater_19 : decode cX2_nearestWater 19 = .ok (.iload 4, 2) := by decide +kernel
theorem dX2_nearestWater_21 : decode cX2_nearestWater 21 = .ok (.invokestatic 77, 3) := by decide +kernel
theorem dX2_nearestWater_24 : decode cX2_nearestWater 24 = .ok (.land, 1) := by decide +kernel
theorem dX2_nearestWater_25 : decode cX2_nearestWater 25 = .ok (.lconst 0, 1) := by decide +kernel
theorem dX2_nearestWater_26 : decode cX2_nearestWater 26 = .ok (.lcmp, 1) := by decide +kernel
theorem dX2_nearestWater_27 : decode cX2_nearestWater 27 = .ok (.ifCond .eq 29, 3) := by decide +kernel
theorem dX2_nearestWater_30 : decode cX2_nearestWater 30 = .ok (.aload_n 1, 1) := by decide +kernel
theorem dX2_nearestWater_31 : decode cX2_nearestWater 31 = .ok (.getfield 68, 3) := by decide +kernel
theorem dX2_nearestWater_34 : decode cX2_nearestWater 34 = .ok (.iload 4, 2) := by decide +kernel
theorem dX2_nearestWater_36 : decode cX2_nearestWater 36 = .ok (.invokestatic 161, 3) := by decide +kernel
theorem dX2_nearestWater_39 : decode cX2_nearestWater 39 = .ok (.iload_n 3, 1) := by decide +kernel
theorem dX2_nearestWater_40 : decode cX2_nearestWater 40 = .ok (.if_icmp .ge 16, 3) := by decide +kernel
theorem dX2_nearestWater_43 : decode cX2_nearestWater 43 = .ok (.aload_n 1, 1) := by decide +kernel
theorem dX2_nearestWater_44 : decode cX2_nearestWater 44 = .ok (.getfield 68, 3) := by decide +kernel
theorem dX2_nearestWater_47 : decode cX2_nearestWater 47 = .ok (.iload 4, 2) := by decide +kernel
theorem dX2_nearestWater_49 : decode cX2_nearestWater 49 = .ok (.invokestatic 161, 3) := by decide +kernel
theorem dX2_nearestWater_52 : decode cX2_nearestWater 52 = .ok (.istore_n 3, 1) := by decide +kernel
theorem dX2_nearestWater_53 : decode cX2_nearestWater 53 = .ok (.iload 4, 2) := by decide +kernel
theorem dX2_nearestWater_55 : decode cX2_nearestWater 55 = .ok (.istore_n 2, 1) := by decide +kernel
theorem dX2_nearestWater_56 : decode cX2_nearestWater 56 = .ok (.iinc 4 1, 3) := by decide +kernel
theorem dX2_nearestWater_59 : decode cX2_nearestWater 59 = .ok (.goto (-51), 3) := by decide +kernel
theorem dX2_nearestWater_62 : decode cX2_nearestWater 62 = .ok (.iload_n 2, 1) := by decide +kernel
theorem dX2_nearestWater_63 : decode cX2_nearestWater 63 = .ok (.ireturn, 1) := by decide +kernel
set_option maxRecDepth 20000 in
theorem ggX2_nearestCompany_X2_seedAt : GoodIn wsX2_nearestCompany wsX2_seedAt := goodIn_r _ [6, 1, 7, 8, 9, 5, 10, 11, 35, 36, 37, 38, 39, 40, 41, 42] (by decide +kernel) (by decide +kernel)
set_option maxRecDepth 20000 in
theorem gX2_nearestCompany_X2_seedAt : GoodIn wsX2_nearestCompany (wsV RX2 58 RX2 yX2_seedAt wsX2_seedAt) := goodIn_app (goodIn_of _ (by decide +kernel)) ggX2_nearestCompany_X2_seedAt
set_option maxRecDepth 20000 in
theorem ggX2_nearestCompany_X3_isAlive : GoodIn wsX2_nearestCompany wsX3_isAlive := goodIn_r _ [16, 17, 18, 19, 20, 15, 21, 22, 43, 44, 45, 46] (by decide +kernel) (by decide +kernel)
set_option maxRecDepth 20000 in
theorem gX2_nearestCompany_X3_isAlive : GoodIn wsX2_nearestCompany (wsV RX2 112 RX3 yX3_isAlive wsX3_isAlive) := goodIn_app (goodIn_of _ (by decide +kernel)) ggX2_nearestCompany_X3_isAlive
set_option maxRecDepth 20000 in
theorem ggX2_nearestCompany_X0_distance : GoodIn wsX2_nearestCompany wsX0_distance := goodIn_r _ [26] (by decide +kernel) (by decide +kernel)
set_option maxRecDepth 20000 in
theorem gX2_nearestCompany_X0_distance : GoodIn wsX2_nearestCompany (va_wsS RX2 161 yX0_distance wsX0_distance) := goodIn_app (goodIn_of _ (by decide +kernel)) ggX2_nearestCompany_X0_distance
set_option maxRecDepth 20000 in
theorem ggX2_nearestCompany_X2_nearestWater : GoodIn wsX2_nearestCompany wsX2_nearestWater := goodIn_r _ [30, 31, 32, 33, 34, 23, 24, 25, 26, 35, 36, 37, 38, 39, 40, 41, 42, 43, 44, 45, 46] (by decide +kernel) (by decide +kernel)
set_option maxRecDepth 20000 in
theorem gX2_nearestCompany_X2_nearestWater : GoodIn wsX2_nearestCompany (wsV RX2 151 RX2 yX2_nearestWater wsX2_nearestWater) := goodIn_app (goodIn_of _ (by decide +kernel)) ggX2_nearestCompany_X2_nearestWater
theorem dX2_nearestCompany_0 : decode cX2_nearestCompany 0 = .ok (.iconst (-1), 1) := by decide +kernel
theorem dX2_nearestCompany_1 : decode cX2_nearestCompany 1 = .ok (.istore_n 2, 1) := by decide +kernel
theorem dX2_nearestCompany_2 : decode cX2_nearestCompany 2 = .ok (.bipush 36, 2) := by decide +kernel
theorem dX2_nearestCompany_4 : decode cX2_nearestCompany 4 = .ok (.istore_n 3, 1) := by decide +kernel
theorem dX2_nearestCompany_5 : decode cX2_nearestCompany 5 = .ok (.iconst 0, 1) := by decide +kernel
theorem dX2_nearestCompany_6 : decode cX2_nearestCompany 6 = .ok (.istore 4, 2) := by decide +kernel
theorem dX2_nearestCompany_8 : decode cX2_nearestCompany 8 = .ok (.iload 4, 2) := by decide +kernel
theorem dX2_nearestCompany_10 : decode cX2_nearestCompany 10 = .ok (.aload_n 0, 1) := by decide +kernel
theorem dX2_nearestCompany_11 : decode cX2_nearestCompany 11 = .ok (.getfield 48, 3) := by decide +kernel
theorem dX2_nearestCompany_14 : decode cX2_nearestCompany 14 = .ok (.if_icmp .ge 77, 3) := by decide +kernel
theorem dX2_nearestCompany_17 : decode cX2_nearestCompany 17 = .ok (.aload_n 0, 1) := by decide +kernel
theorem dX2_nearestCompany_18 : decode cX2_nearestCompany 18 = .ok (.iload 4, 2) := by decide +kernel
theorem dX2_nearestCompany_20 : decode cX2_nearestCompany 20 = .ok (.invokevirtual 58, 3) := by decide +kernel
theorem dX2_nearestCompany_23 : decode cX2_nearestCompany 23 = .ok (.astore 5, 2) := by decide +kernel
theorem dX2_nearestCompany_25 : decode cX2_nearestCompany 25 = .ok (.aload 5, 2) := by decide +kernel
theorem dX2_nearestCompany_27 : decode cX2_nearestCompany 27 = .ok (.ifnull 58, 3) := by decide +kernel
theorem dX2_nearestCompany_30 : decode cX2_nearestCompany 30 = .ok (.aload 5, 2) := by decide +kernel
theorem dX2_nearestCompany_32 : decode cX2_nearestCompany 32 = .ok (.getfield 68, 3) := by decide +kernel
theorem dX2_nearestCompany_35 : decode cX2_nearestCompany 35 = .ok (.aload_n 1, 1) := by decide +kernel
theorem dX2_nearestCompany_36 : decode cX2_nearestCompany 36 = .ok (.getfield 68, 3) := by decide +kernel
theorem dX2_nearestCompany_39 : decode cX2_nearestCompany 39 = .ok (.if_icmp .eq 46, 3) := by decide +kernel
theorem dX2_nearestCompany_42 : decode cX2_nearestCompany 42 = .ok (.aload 5, 2) := by decide +kernel
theorem dX2_nearestCompany_44 : decode cX2_nearestCompany 44 = .ok (.invokevirtual 112, 3) := by decide +kernel
theorem dX2_nearestCompany_47 : decode cX2_nearestCompany 47 = .ok (.ifCond .eq 38, 3) := by decide +kernel
theorem dX2_nearestCompany_50 : decode cX2_nearestCompany 50 = .ok (.aload_n 1, 1) := by decide +kernel
theorem dX2_nearestCompany_51 : decode cX2_nearestCompany 51 = .ok (.getfield 68, 3) := by decide +kernel
theorem dX2_nearestCompany_54 : decode cX2_nearestCompany 54 = .ok (.aload 5, 2) := by decide +kernel
theorem dX2_nearestCompany_56 : decode cX2_nearestCompany 56 = .ok (.getfield 68, 3) := by decide +kernel
theorem dX2_nearestCompany_59 : decode cX2_nearestCompany 59 = .ok (.invokestatic 161, 3) := by decide +kernel
theorem dX2_nearestCompany_62 : decode cX2_nearestCompany 62 = .ok (.iload_n 3, 1) := by decide +kernel
theorem dX2_nearestCompany_63 : decode cX2_nearestCompany 63 = .ok (.if_icmp .ge 22, 3) := by decide +kernel
theorem dX2_nearestCompany_66 : decode cX2_nearestCompany 66 = .ok (.aload_n 1, 1) := by decide +kernel
theorem dX2_nearestCompany_67 : decode cX2_nearestCompany 67 = .ok (.getfield 68, 3) := by decide +kernel
theorem dX2_nearestCompany_70 : decode cX2_nearestCompany 70 = .ok (.aload 5, 2) := by decide +kernel
theorem dX2_nearestCompany_72 : decode cX2_nearestCompany 72 = .ok (.getfield 68, 3) := by decide +kernel
theorem dX2_nearestCompany_75 : decode cX2_nearestCompany 75 = .ok (.invokestatic 161, 3) := by decide +kernel
theorem dX2_nearestCompany_78 : decode cX2_nearestCompany 78 = .ok (.istore_n 3, 1) := by decide +kernel
theorem dX2_nearestCompany_79 : decode cX2_nearestCompany 79 = .ok (.aload 5, 2) := by decide +kernel
theorem dX2_nearestCompany_81 : decode cX2_nearestCompany 81 = .ok (.getfield 68, 3) := by decide +kernel
theorem dX2_nearestCompany_84 : decode cX2_nearestCompany 84 = .ok (.istore_n 2, 1) := by decide +kernel
theorem dX2_nearestCompany_85 : decode cX2_nearestCompany 85 = .ok (.iinc 4 1, 3) := by decide +kernel
theorem dX2_nearestCompany_88 : decode cX2_nearestCompany 88 = .ok (.goto (-80), 3) := by decide +kernel
theorem dX2_nearestCompany_91 : decode cX2_nearestCompany 91 = .ok (.iload_n 2, 1) := by decide +kernel
theorem dX2_nearestCompany_92 : decode cX2_nearestCompany 92 = .ok (.ifCond .ge 11, 3) := by decide +kernel
theorem dX2_nearestCompany_95 : decode cX2_nearestCompany 95 = .ok (.aload_n 0, 1) := by decide +kernel
theorem dX2_nearestCompany_96 : decode cX2_nearestCompany 96 = .ok (.aload_n 1, 1) := by decide +kernel
theorem dX2_nearestCompany_97 : decode cX2_nearestCompany 97 = .ok (.invokevirtual 151, 3) := by decide +kernel
theorem dX2_nearestCompany_100 : decode cX2_nearestCompany 100 = .ok (.goto 4, 3) := by decide +kernel
theorem dX2_nearestCompany_103 : decode cX2_nearestCompany 103 = .ok (.iload_n 2, 1) := by decide +kernel
theorem dX2_nearestCompany_104 : decode cX2_nearestCompany 104 = .ok (.ireturn, 1) := by decide +kernel
set_option maxRecDepth 20000 in
theorem ggX2_toward_X0_distance : GoodIn wsX2_toward wsX0_distance := goodIn_r _ [4] (by decide +kernel) (by decide +kernel)
set_option maxRecDepth 20000 in
theorem gX2_toward_X0_distance : GoodIn wsX2_toward (va_wsS RX2 161 yX0_distance wsX0_distance) := goodIn_app (goodIn_of _ (by decide +kernel)) ggX2_toward_X0_distance
set_option maxRecDepth 20000 in
theorem ggX2_toward_X0_neighbour : GoodIn wsX2_toward wsX0_neighbour := goodIn_r _ [7] (by decide +kernel) (by decide +kernel)
set_option maxRecDepth 20000 in
theorem gX2_toward_X0_neighbour : GoodIn wsX2_toward (va_wsS RX2 133 yX0_neighbour wsX0_neighbour) := goodIn_app (goodIn_of _ (by decide +kernel)) ggX2_toward_X0_neighbour
theorem dX2_toward_0 : decode cX2_toward 0 = .ok (.iload_n 1, 1) := by decide +kernel
theorem dX2_toward_1 : decode cX2_toward 1 = .ok (.ifCond .ge 8, 3) := by decide +kernel
theorem dX2_toward_4 : decode cX2_toward 4 = .ok (.aload_n 0, 1) := by decide +kernel
theorem dX2_toward_5 : decode cX2_toward 5 = .ok (.getfield 71, 3) := by decide +kernel
theorem dX2_toward_8 : decode cX2_toward 8 = .ok (.ireturn, 1) := by decide +kernel
theorem dX2_toward_9 : decode cX2_toward 9 = .ok (.aload_n 0, 1) := by decide +kernel
theorem dX2_toward_10 : decode cX2_toward 10 = .ok (.getfield 68, 3) := by decide +kernel
theorem dX2_toward_13 : decode cX2_toward 13 = .ok (.iload_n 1, 1) := by decide +kernel
theorem dX2_toward_14 : decode cX2_toward 14 = .ok (.invokestatic 161, 3) := by decide +kernel
theorem dX2_toward_17 : decode cX2_toward 17 = .ok (.istore_n 2, 1) := by decide +kernel
theorem dX2_toward_18 : decode cX2_toward 18 = .ok (.iconst 0, 1) := by decide +kernel
theorem dX2_toward_19 : decode cX2_toward 19 = .ok (.istore_n 3, 1) := by decide +kernel
theorem dX2_toward_20 : decode cX2_toward 20 = .ok (.iload_n 3, 1) := by decide +kernel
theorem dX2_toward_21 : decode cX2_toward 21 = .ok (.iconst 4, 1) := by decide +kernel
theorem dX2_toward_22 : decode cX2_toward 22 = .ok (.if_icmp .ge 36, 3) := by decide +kernel
theorem dX2_toward_25 : decode cX2_toward 25 = .ok (.aload_n 0, 1) := by decide +kernel
theorem dX2_toward_26 : decode cX2_toward 26 = .ok (.getfield 68, 3) := by decide +kernel
theorem dX2_toward_29 : decode cX2_toward 29 = .ok (.iload_n 3, 1) := by decide +kernel
theorem dX2_toward_30 : decode cX2_toward 30 = .ok (.invokestatic 133, 3) := by decide +kernel
theorem dX2_toward_33 : decode cX2_toward 33 = .ok (.istore 4, 2) := by decide +kernel
theorem dX2_toward_35 : decode cX2_toward 35 = .ok (.iload 4, 2) := by decide +kernel
theorem dX2_toward_37 : decode cX2_toward 37 = .ok (.ifCond .lt 15, 3) := by decide +kernel
theorem dX2_toward_40 : decode cX2_toward 40 = .ok (.iload 4, 2) := by decide +kernel
theorem dX2_toward_42 : decode cX2_toward 42 = .ok (.iload_n 1, 1) := by decide +kernel
theorem dX2_toward_43 : decode cX2_toward 43 = .ok (.invokestatic 161, 3) := by decide +kernel
theorem dX2_toward_46 : decode cX2_toward 46 = .ok (.iload_n 2, 1) := by decide +kernel
theorem dX2_toward_47 : decode cX2_toward 47 = .ok (.if_icmp .ge 5, 3) := by decide +kernel
theorem dX2_toward_50 : decode cX2_toward 50 = .ok (.iload_n 3, 1) := by decide +kernel
theorem dX2_toward_51 : decode cX2_toward 51 = .ok (.ireturn, 1) := by decide +kernel
theorem dX2_toward_52 : decode cX2_toward 52 = .ok (.iinc 3 1, 3) := by decide +kernel
theorem dX2_toward_55 : decode cX2_toward 55 = .ok (.goto (-35), 3) := by decide +kernel
theorem dX2_toward_58 : decode cX2_toward 58 = .ok (.aload_n 0, 1) := by decide +kernel
theorem dX2_toward_59 : decode cX2_toward 59 = .ok (.getfield 71, 3) := by decide +kernel
theorem dX2_toward_62 : decode cX2_toward 62 = .ok (.ireturn, 1) := by decide +kernel
theorem dX3_init_0 : decode cX3_init 0 = .ok (.aload_n 0, 1) := by decide +kernel
theorem dX3_init_1 : decode cX3_init 1 = .ok (.invokespecial 3, 3) := by decide +kernel
theorem dX3_init_4 : decode cX3_init 4 = .ok (.return_, 1) := by decide +kernel
theorem dX3_mirror_0 : decode cX3_mirror 0 = .ok (.aload_n 0, 1) := by decide +kernel
theorem dX3_mirror_1 : decode cX3_mirror 1 = .ok (.aload_n 1, 1) := by decide +kernel
theorem dX3_mirror_2 : decode cX3_mirror 2 = .ok (.getfield 9, 3) := by decide +kernel
theorem dX3_mirror_5 : decode cX3_mirror 5 = .ok (.putfield 9, 3) := by decide +kernel
theorem dX3_mirror_8 : decode cX3_mirror 8 = .ok (.aload_n 0, 1) := by decide +kernel
theorem dX3_mirror_9 : decode cX3_mirror 9 = .ok (.aload_n 1, 1) := by decide +kernel
theorem dX3_mirror_10 : decode cX3_mirror 10 = .ok (.getfield 15, 3) := by decide +kernel
theorem dX3_mirror_13 : decode cX3_mirror 13 = .ok (.putfield 15, 3) := by decide +kernel
theorem dX3_mirror_16 : decode cX3_mirror 16 = .ok (.aload_n 0, 1) := by decide +kernel
theorem dX3_mirror_17 : decode cX3_mirror 17 = .ok (.aload_n 1, 1) := by decide +kernel
theorem dX3_mirror_18 : decode cX3_mirror 18 = .ok (.getfield 18, 3) := by decide +kernel
theorem dX3_mirror_21 : decode cX3_mirror 21 = .ok (.putfield 18, 3) := by decide +kernel
theorem dX3_mirror_24 : decode cX3_mirror 24 = .ok (.aload_n 0, 1) := by decide +kernel
theorem dX3_mirror_25 : decode cX3_mirror 25 = .ok (.aload_n 1, 1) := by decide +kernel
theorem dX3_mirror_26 : decode cX3_mirror 26 = .ok (.getfield 21, 3) := by decide +kernel
theorem dX3_mirror_29 : decode cX3_mirror 29 = .ok (.putfield 21, 3) := by decide +kernel
theorem dX3_mirror_32 : decode cX3_mirror 32 = .ok (.return_, 1) := by decide +kernel
set_option maxRecDepth 20000 in
theorem ggX3_takes_X6_isKind : GoodIn wsX3_takes wsX6_isKind := goodIn_r _ [3, 4, 5, 2, 6] (by decide +kernel) (by decide +kernel)
set_option maxRecDepth 20000 in
theorem gX3_takes_X6_isKind_n24 : GoodIn wsX3_takes (wsX6_isKind) := ggX3_takes_X6_isKind
set_option maxRecDepth 20000 in
theorem ggX3_takes_X6_isCell : GoodIn wsX3_takes wsX6_isCell := goodIn_r _ [8, 4, 5, 2, 6] (by decide +kernel) (by decide +kernel)
set_option maxRecDepth 20000 in
theorem gX3_takes_X6_isCell_n28 : GoodIn wsX3_takes (wsX6_isCell) := ggX3_takes_X6_isCell
set_option maxRecDepth 20000 in
theorem ggX3_takes_X6_isHeading : GoodIn wsX3_takes wsX6_isHeading := goodIn_r _ [10, 4, 5, 2, 6] (by decide +kernel) (by decide +kernel)
set_option maxRecDepth 20000 in
theorem gX3_takes_X6_isHeading_n31 : GoodIn wsX3_takes (wsX6_isHeading) := ggX3_takes_X6_isHeading
set_option maxRecDepth 20000 in
theorem ggX3_takes_X6_within : GoodIn wsX3_takes wsX6_within := goodIn_r _ [6] (by decide +kernel) (by decide +kernel)
set_option maxRecDepth 20000 in
theorem gX3_takes_X6_within_n34 : GoodIn wsX3_takes (wsX6_within) := ggX3_takes_X6_within
theorem dX3_takes_0 : decode cX3_takes 0 = .ok (.iload_n 0, 1) := by decide +kernel
theorem dX3_takes_1 : decode cX3_takes 1 = .ok (.tableswitch 55 0 3 #[31, 36, 41, 46], 31) := by decide +kernel
theorem dX3_takes_32 : decode cX3_takes 32 = .ok (.iload_n 1, 1) := by decide +kernel
theorem dX3_takes_33 : decode cX3_takes 33 = .ok (.invokestatic 24, 3) := by decide +kernel
theorem dX3_takes_36 : decode cX3_takes 36 = .ok (.ireturn, 1) := by decide +kernel
theorem dX3_takes_37 : decode cX3_takes 37 = .ok (.iload_n 1, 1) := by decide +kernel
theorem dX3_takes_38 : decode cX3_takes 38 = .ok (.invokestatic 28, 3) := by decide +kernel
theorem dX3_takes_41 : decode cX3_takes 41 = .ok (.ireturn, 1) := by decide +kernel
theorem dX3_takes_42 : decode cX3_takes 42 = .ok (.iload_n 1, 1) := by decide +kernel
theorem dX3_takes_43 : decode cX3_takes 43 = .ok (.invokestatic 31, 3) := by decide +kernel
theorem dX3_takes_46 : decode cX3_takes 46 = .ok (.ireturn, 1) := by decide +kernel
theorem dX3_takes_47 : decode cX3_takes 47 = .ok (.iload_n 1, 1) := by decide +kernel
theorem dX3_takes_48 : decode cX3_takes 48 = .ok (.iconst 0, 1) := by decide +kernel
theorem dX3_takes_49 : decode cX3_takes 49 = .ok (.sipush 999, 3) := by decide +kernel
theorem dX3_takes_52 : decode cX3_takes 52 = .ok (.invokestatic 34, 3) := by decide +kernel
theorem dX3_takes_55 : decode cX3_takes 55 = .ok (.ireturn, 1) := by decide +kernel
theorem dX3_takes_56 : decode cX3_takes 56 = .ok (.iconst 0, 1) := by decide +kernel
theorem dX3_takes_57 : decode cX3_takes 57 = .ok (.ireturn, 1) := by decide +kernel
theorem dX3_replace_0 : decode cX3_replace 0 = .ok (.iload_n 1, 1) := by decide +kernel
theorem dX3_replace_1 : decode cX3_replace 1 = .ok (.tableswitch 63 0 2 #[27, 39, 51], 27) := by decide +kernel
theorem dX3_replace_28 : decode cX3_replace 28 = .ok (.aload_n 0, 1) := by decide +kernel
theorem dX3_replace_29 : decode cX3_replace 29 = .ok (.getfield 9, 3) := by decide +kernel
theorem dX3_replace_32 : decode cX3_replace 32 = .ok (.istore_n 3, 1) := by decide +kernel
theorem dX3_replace_33 : decode cX3_replace 33 = .ok (.aload_n 0, 1) := by decide +kernel
theorem dX3_replace_34 : decode cX3_replace 34 = .ok (.iload_n 2, 1) := by decide +kernel
theorem dX3_replace_35 : decode cX3_replace 35 = .ok (.putfield 9, 3) := by decide +kernel
theorem dX3_replace_38 : decode cX3_replace 38 = .ok (.iload_n 3, 1) := by decide +kernel
theorem dX3_replace_39 : decode cX3_replace 39 = .ok (.ireturn, 1) := by decide +kernel
theorem dX3_replace_40 : decode cX3_replace 40 = .ok (.aload_n 0, 1) := by decide +kernel
theorem dX3_replace_41 : decode cX3_replace 41 = .ok (.getfield 15, 3) := by decide +kernel
theorem dX3_replace_44 : decode cX3_replace 44 = .ok (.istore_n 3, 1) := by decide +kernel
theorem dX3_replace_45 : decode cX3_replace 45 = .ok (.aload_n 0, 1) := by decide +kernel
theorem dX3_replace_46 : decode cX3_replace 46 = .ok (.iload_n 2, 1) := by decide +kernel
theorem dX3_replace_47 : decode cX3_replace 47 = .ok (.putfield 15, 3) := by decide +kernel
theorem dX3_replace_50 : decode cX3_replace 50 = .ok (.iload_n 3, 1) := by decide +kernel
theorem dX3_replace_51 : decode cX3_replace 51 = .ok (.ireturn, 1) := by decide +kernel
theorem dX3_replace_52 : decode cX3_replace 52 = .ok (.aload_n 0, 1) := by decide +kernel
theorem dX3_replace_53 : decode cX3_replace 53 = .ok (.getfield 18, 3) := by decide +kernel
theorem dX3_replace_56 : decode cX3_replace 56 = .ok (.istore_n 3, 1) := by decide +kernel
theorem dX3_replace_57 : decode cX3_replace 57 = .ok (.aload_n 0, 1) := by decide +kernel
theorem dX3_replace_58 : decode cX3_replace 58 = .ok (.iload_n 2, 1) := by decide +kernel
theorem dX3_replace_59 : decode cX3_replace 59 = .ok (.putfield 18, 3) := by decide +kernel
theorem dX3_replace_62 : decode cX3_replace 62 = .ok (.iload_n 3, 1) := by decide +kernel
theorem dX3_replace_63 : decode cX3_replace 63 = .ok (.ireturn, 1) := by decide +kernel
theorem dX3_replace_64 : decode cX3_replace 64 = .ok (.aload_n 0, 1) := by decide +kernel
theorem dX3_replace_65 : decode cX3_replace 65 = .ok (.getfield 21, 3) := by decide +kernel
theorem dX3_replace_68 : decode cX3_replace 68 = .ok (.istore_n 3, 1) := by decide +kernel
theorem dX3_replace_69 : decode cX3_replace 69 = .ok (.aload_n 0, 1) := by decide +kernel
theorem dX3_replace_70 : decode cX3_replace 70 = .ok (.iload_n 2, 1) := by decide +kernel
theorem dX3_replace_71 : decode cX3_replace 71 = .ok (.putfield 21, 3) := by decide +kernel
theorem dX3_replace_74 : decode cX3_replace 74 = .ok (.iload_n 3, 1) := by decide +kernel
theorem dX3_replace_75 : decode cX3_replace 75 = .ok (.ireturn, 1) := by decide +kernel
theorem dX3_lives_0 : decode cX3_lives 0 = .ok (.aload_n 0, 1) := by decide +kernel
theorem dX3_lives_1 : decode cX3_lives 1 = .ok (.getfield 9, 3) := by decide +kernel
theorem dX3_lives_4 : decode cX3_lives 4 = .ok (.tableswitch 54 1 6 #[40, 45, 48, 51, 54, 42], 40) := by decide +kernel
theorem dX3_lives_44 : decode cX3_lives 44 = .ok (.iconst 4, 1) := by decide +kernel
theorem dX3_lives_45 : decode cX3_lives 45 = .ok (.ireturn, 1) := by decide +kernel
theorem dX3_lives_46 : decode cX3_lives 46 = .ok (.bipush 8, 2) := by decide +kernel
theorem dX3_lives_48 : decode cX3_lives 48 = .ok (.ireturn, 1) := by decide +kernel
theorem dX3_lives_49 : decode cX3_lives 49 = .ok (.bipush 30, 2) := by decide +kernel
theorem dX3_lives_51 : decode cX3_lives 51 = .ok (.ireturn, 1) := by decide +kernel
theorem dX3_lives_52 : decode cX3_lives 52 = .ok (.bipush 15, 2) := by decide +kernel
theorem dX3_lives_54 : decode cX3_lives 54 = .ok (.ireturn, 1) := by decide +kernel
theorem dX3_lives_55 : decode cX3_lives 55 = .ok (.bipush 16, 2) := by decide +kernel
theorem dX3_lives_57 : decode cX3_lives 57 = .ok (.ireturn, 1) := by decide +kernel
theorem dX3_lives_58 : decode cX3_lives 58 = .ok (.bipush 20, 2) := by decide +kernel
theorem dX3_lives_60 : decode cX3_lives 60 = .ok (.ireturn, 1) := by decide +kernel
theorem dX3_treads_0 : decode cX3_treads 0 = .ok (.aload_n 0, 1) := by decide +kernel
theorem dX3_treads_1 : decode cX3_treads 1 = .ok (.getfield 9, 3) := by decide +kernel
theorem dX3_treads_4 : decode cX3_treads 4 = .ok (.tableswitch 58 1 6 #[40, 46, 49, 52, 55, 43], 40) := by decide +kernel
theorem dX3_treads_44 : decode cX3_treads 44 = .ok (.bipush 6, 2) := by decide +kernel
theorem dX3_treads_46 : decode cX3_treads 46 = .ok (.ireturn, 1) := by decide +kernel
theorem dX3_treads_47 : decode cX3_treads 47 = .ok (.bipush 6, 2) := by decide +kernel
theorem dX3_treads_49 : decode cX3_treads 49 = .ok (.ireturn, 1) := by decide +kernel
theorem dX3_treads_50 : decode cX3_treads 50 = .ok (.bipush 32, 2) := by decide +kernel
theorem dX3_treads_52 : decode cX3_treads 52 = .ok (.ireturn, 1) := by decide +kernel
theorem dX3_treads_53 : decode cX3_treads 53 = .ok (.bipush 32, 2) := by decide +kernel
theorem dX3_treads_55 : decode cX3_treads 55 = .ok (.ireturn, 1) := by decide +kernel
theorem dX3_treads_56 : decode cX3_treads 56 = .ok (.bipush 16, 2) := by decide +kernel
theorem dX3_treads_58 : decode cX3_treads 58 = .ok (.ireturn, 1) := by decide +kernel
theorem dX3_treads_59 : decode cX3_treads 59 = .ok (.bipush 9, 2) := by decide +kernel
theorem dX3_treads_61 : decode cX3_treads 61 = .ok (.ireturn, 1) := by decide +kernel
theorem dX3_treads_62 : decode cX3_treads 62 = .ok (.bipush 12, 2) := by decide +kernel
theorem dX3_treads_64 : decode cX3_treads 64 = .ok (.ireturn, 1) := by decide +kernel
set_option maxRecDepth 20000 in
theorem ggX3_isAlive_X3_lives : GoodIn wsX3_isAlive wsX3_lives := goodIn_r _ [6, 7, 8, 9, 10, 11] (by decide +kernel) (by decide +kernel)
set_option maxRecDepth 20000 in
theorem gX3_isAlive_X3_lives : GoodIn wsX3_isAlive (wsV RX3 38 RX3 yX3_lives wsX3_lives) := goodIn_app (goodIn_of _ (by decide +kernel)) ggX3_isAlive_X3_lives
theorem dX3_isAlive_0 : decode cX3_isAlive 0 = .ok (.aload_n 0, 1) := by decide +kernel
theorem dX3_isAlive_1 : decode cX3_isAlive 1 = .ok (.getfield 21, 3) := by decide +kernel
theorem dX3_isAlive_4 : decode cX3_isAlive 4 = .ok (.aload_n 0, 1) := by decide +kernel
theorem dX3_isAlive_5 : decode cX3_isAlive 5 = .ok (.invokevirtual 38, 3) := by decide +kernel
theorem dX3_isAlive_8 : decode cX3_isAlive 8 = .ok (.if_icmp .ge 7, 3) := by decide +kernel
theorem dX3_isAlive_11 : decode cX3_isAlive 11 = .ok (.iconst 1, 1) := by decide +kernel
theorem dX3_isAlive_12 : decode cX3_isAlive 12 = .ok (.goto 4, 3) := by decide +kernel
theorem dX3_isAlive_15 : decode cX3_isAlive 15 = .ok (.iconst 0, 1) := by decide +kernel
theorem dX3_isAlive_16 : decode cX3_isAlive 16 = .ok (.ireturn, 1) := by decide +kernel
set_option maxRecDepth 20000 in
theorem ggX3_isA_X3_kindOver : GoodIn wsX3_isA wsX3_kindOver := goodIn_r _ [5] (by decide +kernel) (by decide +kernel)
set_option maxRecDepth 20000 in
theorem gX3_isA_X3_kindOver : GoodIn wsX3_isA (va_wsS RX3 42 yX3_kindOver wsX3_kindOver) := goodIn_app (goodIn_of _ (by decide +kernel)) ggX3_isA_X3_kindOver
theorem dX3_isA_0 : decode cX3_isA 0 = .ok (.aload_n 0, 1) := by decide +kernel
theorem dX3_isA_1 : decode cX3_isA 1 = .ok (.getfield 9, 3) := by decide +kernel
theorem dX3_isA_4 : decode cX3_isA 4 = .ok (.istore_n 2, 1) := by decide +kernel
theorem dX3_isA_5 : decode cX3_isA 5 = .ok (.iconst 0, 1) := by decide +kernel
theorem dX3_isA_6 : decode cX3_isA 6 = .ok (.istore_n 3, 1) := by decide +kernel
theorem dX3_isA_7 : decode cX3_isA 7 = .ok (.iload_n 3, 1) := by decide +kernel
theorem dX3_isA_8 : decode cX3_isA 8 = .ok (.bipush 7, 2) := by decide +kernel
theorem dX3_isA_10 : decode cX3_isA 10 = .ok (.if_icmp .ge 19, 3) := by decide +kernel
theorem dX3_isA_13 : decode cX3_isA 13 = .ok (.iload_n 2, 1) := by decide +kernel
theorem dX3_isA_14 : decode cX3_isA 14 = .ok (.iload_n 1, 1) := by decide +kernel
theorem dX3_isA_15 : decode cX3_isA 15 = .ok (.if_icmp .eq 14, 3) := by decide +kernel
theorem dX3_isA_18 : decode cX3_isA 18 = .ok (.iload_n 2, 1) := by decide +kernel
theorem dX3_isA_19 : decode cX3_isA 19 = .ok (.invokestatic 42, 3) := by decide +kernel
theorem dX3_isA_22 : decode cX3_isA 22 = .ok (.istore_n 2, 1) := by decide +kernel
theorem dX3_isA_23 : decode cX3_isA 23 = .ok (.iinc 3 1, 3) := by decide +kernel
theorem dX3_isA_26 : decode cX3_isA 26 = .ok (.goto (-19), 3) := by decide +kernel
theorem dX3_isA_29 : decode cX3_isA 29 = .ok (.iload_n 2, 1) := by decide +kernel
theorem dX3_isA_30 : decode cX3_isA 30 = .ok (.iload_n 1, 1) := by decide +kernel
theorem dX3_isA_31 : decode cX3_isA 31 = .ok (.if_icmp .ne 7, 3) := by decide +kernel
theorem dX3_isA_34 : decode cX3_isA 34 = .ok (.iconst 1, 1) := by decide +kernel
theorem dX3_isA_35 : decode cX3_isA 35 = .ok (.goto 4, 3) := by decide +kernel
theorem dX3_isA_38 : decode cX3_isA 38 = .ok (.iconst 0, 1) := by decide +kernel
theorem dX3_isA_39 : decode cX3_isA 39 = .ok (.ireturn, 1) := by decide +kernel
theorem dX3_kindOver_0 : decode cX3_kindOver 0 = .ok (.iload_n 0, 1) := by decide +kernel
theorem dX3_kindOver_1 : decode cX3_kindOver 1 = .ok (.tableswitch 37 3 6 #[31, 33, 37, 35], 31) := by decide +kernel
theorem dX3_kindOver_32 : decode cX3_kindOver 32 = .ok (.iconst 2, 1) := by decide +kernel
theorem dX3_kindOver_33 : decode cX3_kindOver 33 = .ok (.ireturn, 1) := by decide +kernel
theorem dX3_kindOver_34 : decode cX3_kindOver 34 = .ok (.iconst 3, 1) := by decide +kernel
theorem dX3_kindOver_35 : decode cX3_kindOver 35 = .ok (.ireturn, 1) := by decide +kernel
theorem dX3_kindOver_36 : decode cX3_kindOver 36 = .ok (.iconst 1, 1) := by decide +kernel
theorem dX3_kindOver_37 : decode cX3_kindOver 37 = .ok (.ireturn, 1) := by decide +kernel
theorem dX3_kindOver_38 : decode cX3_kindOver 38 = .ok (.iconst 0, 1) := by decide +kernel
theorem dX3_kindOver_39 : decode cX3_kindOver 39 = .ok (.ireturn, 1) := by decide +kernel
theorem dX4_init_0 : decode cX4_init 0 = .ok (.aload_n 0, 1) := by decide +kernel
theorem dX4_init_1 : decode cX4_init 1 = .ok (.invokespecial 3, 3) := by decide +kernel
theorem dX4_init_4 : decode cX4_init 4 = .ok (.aload_n 0, 1) := by decide +kernel
theorem dX4_init_5 : decode cX4_init 5 = .ok (.bipush 40, 2) := by decide +kernel
theorem dX4_init_7 : decode cX4_init 7 = .ok (.newarray .int, 2) := by decide +kernel
theorem dX4_init_9 : decode cX4_init 9 = .ok (.putfield 9, 3) := by decide +kernel
theorem dX4_init_12 : decode cX4_init 12 = .ok (.return_, 1) := by decide +kernel
theorem dX4_canHave_0 : decode cX4_canHave 0 = .ok (.iload_n 0, 1) := by decide +kernel
theorem dX4_canHave_1 : decode cX4_canHave 1 = .ok (.ifCond .eq 21, 3) := by decide +kernel
theorem dX4_canHave_4 : decode cX4_canHave 4 = .ok (.iload_n 0, 1) := by decide +kernel
theorem dX4_canHave_5 : decode cX4_canHave 5 = .ok (.bipush 8, 2) := by decide +kernel
theorem dX4_canHave_7 : decode cX4_canHave 7 = .ok (.if_icmp .eq 15, 3) := by decide +kernel
theorem dX4_canHave_10 : decode cX4_canHave 10 = .ok (.iload_n 0, 1) := by decide +kernel
theorem dX4_canHave_11 : decode cX4_canHave 11 = .ok (.bipush 16, 2) := by decide +kernel
theorem dX4_canHave_13 : decode cX4_canHave 13 = .ok (.if_icmp .eq 9, 3) := by decide +kernel
theorem dX4_canHave_16 : decode cX4_canHave 16 = .ok (.iload_n 0, 1) := by decide +kernel
theorem dX4_canHave_17 : decode cX4_canHave 17 = .ok (.bipush 32, 2) := by decide +kernel
theorem dX4_canHave_19 : decode cX4_canHave 19 = .ok (.if_icmp .ne 7, 3) := by decide +kernel
theorem dX4_canHave_22 : decode cX4_canHave 22 = .ok (.iconst 1, 1) := by decide +kernel
theorem dX4_canHave_23 : decode cX4_canHave 23 = .ok (.goto 4, 3) := by decide +kernel
theorem dX4_canHave_26 : decode cX4_canHave 26 = .ok (.iconst 0, 1) := by decide +kernel
theorem dX4_canHave_27 : decode cX4_canHave 27 = .ok (.ireturn, 1) := by decide +kernel
theorem dX4_lay_0 : decode cX4_lay 0 = .ok (.aload_n 0, 1) := by decide +kernel
theorem dX4_lay_1 : decode cX4_lay 1 = .ok (.iload_n 1, 1) := by decide +kernel
theorem dX4_lay_2 : decode cX4_lay 2 = .ok (.putfield 15, 3) := by decide +kernel
theorem dX4_lay_5 : decode cX4_lay 5 = .ok (.aload_n 0, 1) := by decide +kernel
theorem dX4_lay_6 : decode cX4_lay 6 = .ok (.iload_n 1, 1) := by decide +kernel
theorem dX4_lay_7 : decode cX4_lay 7 = .ok (.ifCond .ne 7, 3) := by decide +kernel
theorem dX4_lay_10 : decode cX4_lay 10 = .ok (.iconst 0, 1) := by decide +kernel
theorem dX4_lay_11 : decode cX4_lay 11 = .ok (.goto 4, 3) := by decide +kernel
theorem dX4_lay_14 : decode cX4_lay 14 = .ok (.iload_n 2, 1) := by decide +kernel
theorem dX4_lay_15 : decode cX4_lay 15 = .ok (.putfield 19, 3) := by decide +kernel
theorem dX4_lay_18 : decode cX4_lay 18 = .ok (.iconst 0, 1) := by decide +kernel
theorem dX4_lay_19 : decode cX4_lay 19 = .ok (.istore_n 3, 1) := by decide +kernel
theorem dX4_lay_20 : decode cX4_lay 20 = .ok (.iload_n 3, 1) := by decide +kernel
theorem dX4_lay_21 : decode cX4_lay 21 = .ok (.aload_n 0, 1) := by decide +kernel
theorem dX4_lay_22 : decode cX4_lay 22 = .ok (.getfield 9, 3) := by decide +kernel
theorem dX4_lay_25 : decode cX4_lay 25 = .ok (.arraylength, 1) := by decide +kernel
theorem dX4_lay_26 : decode cX4_lay 26 = .ok (.if_icmp .ge 16, 3) := by decide +kernel
theorem dX4_lay_29 : decode cX4_lay 29 = .ok (.aload_n 0, 1) := by decide +kernel
theorem dX4_lay_30 : decode cX4_lay 30 = .ok (.getfield 9, 3) := by decide +kernel
theorem dX4_lay_33 : decode cX4_lay 33 = .ok (.iload_n 3, 1) := by decide +kernel
theorem dX4_lay_34 : decode cX4_lay 34 = .ok (.iconst 0, 1) := by decide +kernel
theorem dX4_lay_35 : decode cX4_lay 35 = .ok (.iastore, 1) := by decide +kernel
theorem dX4_lay_36 : decode cX4_lay 36 = .ok (.iinc 3 1, 3) := by decide +kernel
theorem dX4_lay_39 : decode cX4_lay 39 = .ok (.goto (-19), 3) := by decide +kernel
theorem dX4_lay_42 : decode cX4_lay 42 = .ok (.return_, 1) := by decide +kernel
theorem dX4_isMissing_0 : decode cX4_isMissing 0 = .ok (.aload_n 0, 1) := by decide +kernel
theorem dX4_isMissing_1 : decode cX4_isMissing 1 = .ok (.getfield 15, 3) := by decide +kernel
theorem dX4_isMissing_4 : decode cX4_isMissing 4 = .ok (.ifCond .ne 7, 3) := by decide +kernel
theorem dX4_isMissing_7 : decode cX4_isMissing 7 = .ok (.iconst 1, 1) := by decide +kernel
theorem dX4_isMissing_8 : decode cX4_isMissing 8 = .ok (.goto 4, 3) := by decide +kernel
theorem dX4_isMissing_11 : decode cX4_isMissing 11 = .ok (.iconst 0, 1) := by decide +kernel
theorem dX4_isMissing_12 : decode cX4_isMissing 12 = .ok (.ireturn, 1) := by decide +kernel
set_option maxRecDepth 20000 in
theorem ggX4_numberAt_X6_at : GoodIn wsX4_numberAt wsX6_at := goodIn_r _ [4] (by decide +kernel) (by decide +kernel)
set_option maxRecDepth 20000 in
theorem gX4_numberAt_X6_at_n22 : GoodIn wsX4_numberAt (wsX6_at) := ggX4_numberAt_X6_at
theorem dX4_numberAt_0 : decode cX4_numberAt 0 = .ok (.aload_n 0, 1) := by decide +kernel
theorem dX4_numberAt_1 : decode cX4_numberAt 1 = .ok (.getfield 9, 3) := by decide +kernel
theorem dX4_numberAt_4 : decode cX4_numberAt 4 = .ok (.iload_n 1, 1) := by decide +kernel
theorem dX4_numberAt_5 : decode cX4_numberAt 5 = .ok (.invokestatic 22, 3) := by decide +kernel
theorem dX4_numberAt_8 : decode cX4_numberAt 8 = .ok (.ireturn, 1) := by decide +kernel
set_option maxRecDepth 20000 in
theorem ggX4_note_X6_put : GoodIn wsX4_note wsX6_put := goodIn_r _ [5] (by decide +kernel) (by decide +kernel)
set_option maxRecDepth 20000 in
theorem gX4_note_X6_put_n26 : GoodIn wsX4_note (wsX6_put) := ggX4_note_X6_put
theorem dX4_note_0 : decode cX4_note 0 = .ok (.aload_n 0, 1) := by decide +kernel
theorem dX4_note_1 : decode cX4_note 1 = .ok (.getfield 15, 3) := by decide +kernel
theorem dX4_note_4 : decode cX4_note 4 = .ok (.lookupswitch 54 #[(8, 28), (16, 41)], 28) := by decide +kernel
theorem dX4_note_32 : decode cX4_note 32 = .ok (.aload_n 0, 1) := by decide +kernel
theorem dX4_note_33 : decode cX4_note 33 = .ok (.getfield 9, 3) := by decide +kernel
theorem dX4_note_36 : decode cX4_note 36 = .ok (.iload_n 1, 1) := by decide +kernel
theorem dX4_note_37 : decode cX4_note 37 = .ok (.iload_n 2, 1) := by decide +kernel
theorem dX4_note_38 : decode cX4_note 38 = .ok (.i2b, 1) := by decide +kernel
theorem dX4_note_39 : decode cX4_note 39 = .ok (.invokestatic 26, 3) := by decide +kernel
theorem dX4_note_42 : decode cX4_note 42 = .ok (.goto 25, 3) := by decide +kernel
theorem dX4_note_45 : decode cX4_note 45 = .ok (.aload_n 0, 1) := by decide +kernel
theorem dX4_note_46 : decode cX4_note 46 = .ok (.getfield 9, 3) := by decide +kernel
theorem dX4_note_49 : decode cX4_note 49 = .ok (.iload_n 1, 1) := by decide +kernel
theorem dX4_note_50 : decode cX4_note 50 = .ok (.iload_n 2, 1) := by decide +kernel
theorem dX4_note_51 : decode cX4_note 51 = .ok (.i2s, 1) := by decide +kernel
theorem dX4_note_52 : decode cX4_note 52 = .ok (.invokestatic 26, 3) := by decide +kernel
theorem dX4_note_55 : decode cX4_note 55 = .ok (.goto 12, 3) := by decide +kernel
theorem dX4_note_58 : decode cX4_note 58 = .ok (.aload_n 0, 1) := by decide +kernel
theorem dX4_note_59 : decode cX4_note 59 = .ok (.getfield 9, 3) := by decide +kernel
theorem dX4_note_62 : decode cX4_note 62 = .ok (.iload_n 1, 1) := by decide +kernel
theorem dX4_note_63 : decode cX4_note 63 = .ok (.iload_n 2, 1) := by decide +kernel
theorem dX4_note_64 : decode cX4_note 64 = .ok (.invokestatic 26, 3) := by decide +kernel
theorem dX4_note_67 : decode cX4_note 67 = .ok (.return_, 1) := by decide +kernel
theorem dX4_has_0 : decode cX4_has 0 = .ok (.iload_n 1, 1) := by decide +kernel
theorem dX4_has_1 : decode cX4_has 1 = .ok (.ifCond .lt 29, 3) := by decide +kernel
theorem dX4_has_4 : decode cX4_has 4 = .ok (.iload_n 2, 1) := by decide +kernel
theorem dX4_has_5 : decode cX4_has 5 = .ok (.ifCond .lt 25, 3) := by decide +kernel
theorem dX4_has_8 : decode cX4_has 8 = .ok (.iload_n 1, 1) := by decide +kernel
theorem dX4_has_9 : decode cX4_has 9 = .ok (.aload_n 0, 1) := by decide +kernel
theorem dX4_has_10 : decode cX4_has 10 = .ok (.getfield 19, 3) := by decide +kernel
theorem dX4_has_13 : decode cX4_has 13 = .ok (.if_icmp .gt 17, 3) := by decide +kernel
theorem dX4_has_16 : decode cX4_has 16 = .ok (.iload_n 2, 1) := by decide +kernel
theorem dX4_has_17 : decode cX4_has 17 = .ok (.aload_n 0, 1) := by decide +kernel
theorem dX4_has_18 : decode cX4_has 18 = .ok (.getfield 19, 3) := by decide +kernel
theorem dX4_has_21 : decode cX4_has 21 = .ok (.iload_n 1, 1) := by decide +kernel
theorem dX4_has_22 : decode cX4_has 22 = .ok (.isub, 1) := by decide +kernel
theorem dX4_has_23 : decode cX4_has 23 = .ok (.if_icmp .gt 7, 3) := by decide +kernel
theorem dX4_has_26 : decode cX4_has 26 = .ok (.iconst 1, 1) := by decide +kernel
theorem dX4_has_27 : decode cX4_has 27 = .ok (.goto 4, 3) := by decide +kernel
theorem dX4_has_30 : decode cX4_has 30 = .ok (.iconst 0, 1) := by decide +kernel
theorem dX4_has_31 : decode cX4_has 31 = .ok (.ireturn, 1) := by decide +kernel
set_option maxRecDepth 20000 in
theorem ggX4_take_X4_has : GoodIn wsX4_take wsX4_has := goodIn_r _ [10, 11, 12, 13, 14] (by decide +kernel) (by decide +kernel)
set_option maxRecDepth 20000 in
theorem gX4_take_X4_has : GoodIn wsX4_take (wsV RX4 30 RX4 yX4_has wsX4_has) := goodIn_app (goodIn_of _ (by decide +kernel)) ggX4_take_X4_has
theorem dX4_take_0 : decode cX4_take 0 = .ok (.aload_n 0, 1) := by decide +kernel
theorem dX4_take_1 : decode cX4_take 1 = .ok (.iload_n 1, 1) := by decide +kernel
theorem dX4_take_2 : decode cX4_take 2 = .ok (.iload 4, 2) := by decide +kernel
theorem dX4_take_4 : decode cX4_take 4 = .ok (.invokevirtual 30, 3) := by decide +kernel
theorem dX4_take_7 : decode cX4_take 7 = .ok (.ifCond .eq 28, 3) := by decide +kernel
theorem dX4_take_10 : decode cX4_take 10 = .ok (.aload_n 2, 1) := by decide +kernel
theorem dX4_take_11 : decode cX4_take 11 = .ok (.iload_n 3, 1) := by decide +kernel
theorem dX4_take_12 : decode cX4_take 12 = .ok (.iload 4, 2) := by decide +kernel
theorem dX4_take_14 : decode cX4_take 14 = .ok (.invokevirtual 30, 3) := by decide +kernel
theorem dX4_take_17 : decode cX4_take 17 = .ok (.ifCond .eq 18, 3) := by decide +kernel
theorem dX4_take_20 : decode cX4_take 20 = .ok (.aload_n 2, 1) := by decide +kernel
theorem dX4_take_21 : decode cX4_take 21 = .ok (.getfield 9, 3) := by decide +kernel
theorem dX4_take_24 : decode cX4_take 24 = .ok (.iload_n 3, 1) := by decide +kernel
theorem dX4_take_25 : decode cX4_take 25 = .ok (.aload_n 0, 1) := by decide +kernel
theorem dX4_take_26 : decode cX4_take 26 = .ok (.getfield 9, 3) := by decide +kernel
theorem dX4_take_29 : decode cX4_take 29 = .ok (.iload_n 1, 1) := by decide +kernel
theorem dX4_take_30 : decode cX4_take 30 = .ok (.iload 4, 2) := by decide +kernel
theorem dX4_take_32 : decode cX4_take 32 = .ok (.invokestatic 34, 3) := by decide +kernel
theorem dX4_take_35 : decode cX4_take 35 = .ok (.return_, 1) := by decide +kernel
theorem dX5_init_0 : decode cX5_init 0 = .ok (.aload_n 0, 1) := by decide +kernel
theorem dX5_init_1 : decode cX5_init 1 = .ok (.invokespecial 3, 3) := by decide +kernel
theorem dX5_init_4 : decode cX5_init 4 = .ok (.aload_n 0, 1) := by decide +kernel
theorem dX5_init_5 : decode cX5_init 5 = .ok (.bipush 120, 2) := by decide +kernel
theorem dX5_init_7 : decode cX5_init 7 = .ok (.newarray .int, 2) := by decide +kernel
theorem dX5_init_9 : decode cX5_init 9 = .ok (.putfield 9, 3) := by decide +kernel
theorem dX5_init_12 : decode cX5_init 12 = .ok (.return_, 1) := by decide +kernel
theorem dX5_append_0 : decode cX5_append 0 = .ok (.aload_n 0, 1) := by decide +kernel
theorem dX5_append_1 : decode cX5_append 1 = .ok (.getfield 15, 3) := by decide +kernel
theorem dX5_append_4 : decode cX5_append 4 = .ok (.ifCond .lt 35, 3) := by decide +kernel
theorem dX5_append_7 : decode cX5_append 7 = .ok (.aload_n 0, 1) := by decide +kernel
theorem dX5_append_8 : decode cX5_append 8 = .ok (.getfield 15, 3) := by decide +kernel
theorem dX5_append_11 : decode cX5_append 11 = .ok (.aload_n 0, 1) := by decide +kernel
theorem dX5_append_12 : decode cX5_append 12 = .ok (.getfield 9, 3) := by decide +kernel
theorem dX5_append_15 : decode cX5_append 15 = .ok (.arraylength, 1) := by decide +kernel
theorem dX5_append_16 : decode cX5_append 16 = .ok (.if_icmp .ge 23, 3) := by decide +kernel
theorem dX5_append_19 : decode cX5_append 19 = .ok (.aload_n 0, 1) := by decide +kernel
theorem dX5_append_20 : decode cX5_append 20 = .ok (.getfield 9, 3) := by decide +kernel
theorem dX5_append_23 : decode cX5_append 23 = .ok (.aload_n 0, 1) := by decide +kernel
theorem dX5_append_24 : decode cX5_append 24 = .ok (.getfield 15, 3) := by decide +kernel
theorem dX5_append_27 : decode cX5_append 27 = .ok (.iload_n 1, 1) := by decide +kernel
theorem dX5_append_28 : decode cX5_append 28 = .ok (.iastore, 1) := by decide +kernel
theorem dX5_append_29 : decode cX5_append 29 = .ok (.aload_n 0, 1) := by decide +kernel
theorem dX5_append_30 : decode cX5_append 30 = .ok (.dup, 1) := by decide +kernel
theorem dX5_append_31 : decode cX5_append 31 = .ok (.getfield 15, 3) := by decide +kernel
theorem dX5_append_34 : decode cX5_append 34 = .ok (.iconst 1, 1) := by decide +kernel
theorem dX5_append_35 : decode cX5_append 35 = .ok (.iadd, 1) := by decide +kernel
theorem dX5_append_36 : decode cX5_append 36 = .ok (.putfield 15, 3) := by decide +kernel
theorem dX5_append_39 : decode cX5_append 39 = .ok (.return_, 1) := by decide +kernel
theorem dX5_clear_0 : decode cX5_clear 0 = .ok (.aload_n 0, 1) := by decide +kernel
theorem dX5_clear_1 : decode cX5_clear 1 = .ok (.getfield 15, 3) := by decide +kernel
theorem dX5_clear_4 : decode cX5_clear 4 = .ok (.istore_n 1, 1) := by decide +kernel
theorem dX5_clear_5 : decode cX5_clear 5 = .ok (.aload_n 0, 1) := by decide +kernel
theorem dX5_clear_6 : decode cX5_clear 6 = .ok (.iconst 0, 1) := by decide +kernel
theorem dX5_clear_7 : decode cX5_clear 7 = .ok (.putfield 15, 3) := by decide +kernel
theorem dX5_clear_10 : decode cX5_clear 10 = .ok (.iload_n 1, 1) := by decide +kernel
theorem dX5_clear_11 : decode cX5_clear 11 = .ok (.ireturn, 1) := by decide +kernel
set_option maxRecDepth 20000 in
theorem ggX5_begin_X5_next : GoodIn wsX5_begin wsX5_next := goodIn_r _ [6, 1, 7, 8, 9, 10, 11, 12, 13, 14, 15, 16, 5, 17, 18, 19, 20, 21, 22, 23, 24, 25, 26, 27, 28, 29, 30, 31, 32, 33, 34] (by decide +kernel) (by decide +kernel)
set_option maxRecDepth 20000 in
theorem gX5_begin_X5_next : GoodIn wsX5_begin (wsV RX5 22 RX5 yX5_next wsX5_next) := goodIn_app (goodIn_of _ (by decide +kernel)) ggX5_begin_X5_next
theorem dX5_begin_0 : decode cX5_begin 0 = .ok (.aload_n 0, 1) := by decide +kernel
theorem dX5_begin_1 : decode cX5_begin 1 = .ok (.iconst 0, 1) := by decide +kernel
theorem dX5_begin_2 : decode cX5_begin 2 = .ok (.putfield 19, 3) := by decide +kernel
theorem dX5_begin_5 : decode cX5_begin 5 = .ok (.aload_n 0, 1) := by decide +kernel
theorem dX5_begin_6 : decode cX5_begin 6 = .ok (.invokevirtual 22, 3) := by decide +kernel
theorem dX5_begin_9 : decode cX5_begin 9 = .ok (.return_, 1) := by decide +kernel
set_option maxRecDepth 20000 in
theorem ggX5_next_X6_at : GoodIn wsX5_next wsX6_at := goodIn_r _ [9] (by decide +kernel) (by decide +kernel)
set_option maxRecDepth 20000 in
theorem gX5_next_X6_at_n28 : GoodIn wsX5_next (wsX6_at) := ggX5_next_X6_at
set_option maxRecDepth 20000 in
theorem ggX5_next_X5_isLetter : GoodIn wsX5_next wsX5_isLetter := goodIn_r _ [13] (by decide +kernel) (by decide +kernel)
set_option maxRecDepth 20000 in
theorem gX5_next_X5_isLetter : GoodIn wsX5_next (va_wsS RX5 38 yX5_isLetter wsX5_isLetter) := goodIn_app (goodIn_of _ (by decide +kernel)) ggX5_next_X5_isLetter
set_option maxRecDepth 20000 in
theorem ggX5_next_X5_isDigit : GoodIn wsX5_next wsX5_isDigit := goodIn_r _ [16] (by decide +kernel) (by decide +kernel)
set_option maxRecDepth 20000 in
theorem gX5_next_X5_isDigit : GoodIn wsX5_next (va_wsS RX5 42 yX5_isDigit wsX5_isDigit) := goodIn_app (goodIn_of _ (by decide +kernel)) ggX5_next_X5_isDigit
set_option maxRecDepth 20000 in
theorem ggX5_next_X5_readNumber : GoodIn wsX5_next wsX5_readNumber := goodIn_r _ [20, 5, 1, 3, 4, 21, 22, 23, 24, 7, 8, 9, 14, 15, 12, 16, 25, 26, 27, 28, 29, 30] (by decide +kernel) (by decide +kernel)
set_option maxRecDepth 20000 in
theorem gX5_next_X5_readNumber : GoodIn wsX5_next (wsV RX5 45 RX5 yX5_readNumber wsX5_readNumber) := goodIn_app (goodIn_of _ (by decide +kernel)) ggX5_next_X5_readNumber
theorem dX5_next_0 : decode cX5_next 0 = .ok (.aload_n 0, 1) := by decide +kernel
theorem dX5_next_1 : decode cX5_next 1 = .ok (.aload_n 0, 1) := by decide +kernel
theorem dX5_next_2 : decode cX5_next 2 = .ok (.getfield 19, 3) := by decide +kernel
theorem dX5_next_5 : decode cX5_next 5 = .ok (.putfield 25, 3) := by decide +kernel
theorem dX5_next_8 : decode cX5_next 8 = .ok (.aload_n 0, 1) := by decide +kernel
theorem dX5_next_9 : decode cX5_next 9 = .ok (.getfield 25, 3) := by decide +kernel
theorem dX5_next_12 : decode cX5_next 12 = .ok (.aload_n 0, 1) := by decide +kernel
theorem dX5_next_13 : decode cX5_next 13 = .ok (.getfield 15, 3) := by decide +kernel
theorem dX5_next_16 : decode cX5_next 16 = .ok (.if_icmp .ge 32, 3) := by decide +kernel
theorem dX5_next_19 : decode cX5_next 19 = .ok (.aload_n 0, 1) := by decide +kernel
theorem dX5_next_20 : decode cX5_next 20 = .ok (.getfield 9, 3) := by decide +kernel
theorem dX5_next_23 : decode cX5_next 23 = .ok (.aload_n 0, 1) := by decide +kernel
theorem dX5_next_24 : decode cX5_next 24 = .ok (.getfield 25, 3) := by decide +kernel
theorem dX5_next_27 : decode cX5_next 27 = .ok (.invokestatic 28, 3) := by decide +kernel
theorem dX5_next_30 : decode cX5_next 30 = .ok (.bipush 32, 2) := by decide +kernel
theorem dX5_next_32 : decode cX5_next 32 = .ok (.if_icmp .ne 16, 3) := by decide +kernel
theorem dX5_next_35 : decode cX5_next 35 = .ok (.aload_n 0, 1) := by decide +kernel
theorem dX5_next_36 : decode cX5_next 36 = .ok (.dup, 1) := by decide +kernel
theorem dX5_next_37 : decode cX5_next 37 = .ok (.getfield 25, 3) := by decide +kernel
theorem dX5_next_40 : decode cX5_next 40 = .ok (.iconst 1, 1) := by decide +kernel
theorem dX5_next_41 : decode cX5_next 41 = .ok (.iadd, 1) := by decide +kernel
theorem dX5_next_42 : decode cX5_next 42 = .ok (.putfield 25, 3) := by decide +kernel
theorem dX5_next_45 : decode cX5_next 45 = .ok (.goto (-37), 3) := by decide +kernel
theorem dX5_next_48 : decode cX5_next 48 = .ok (.aload_n 0, 1) := by decide +kernel
theorem dX5_next_49 : decode cX5_next 49 = .ok (.aload_n 0, 1) := by decide +kernel
theorem dX5_next_50 : decode cX5_next 50 = .ok (.getfield 25, 3) := by decide +kernel
theorem dX5_next_53 : decode cX5_next 53 = .ok (.putfield 19, 3) := by decide +kernel
theorem dX5_next_56 : decode cX5_next 56 = .ok (.aload_n 0, 1) := by decide +kernel
theorem dX5_next_57 : decode cX5_next 57 = .ok (.iconst (-1), 1) := by decide +kernel
theorem dX5_next_58 : decode cX5_next 58 = .ok (.putfield 32, 3) := by decide +kernel
theorem dX5_next_61 : decode cX5_next 61 = .ok (.aload_n 0, 1) := by decide +kernel
theorem dX5_next_62 : decode cX5_next 62 = .ok (.getfield 25, 3) := by decide +kernel
theorem dX5_next_65 : decode cX5_next 65 = .ok (.aload_n 0, 1) := by decide +kernel
theorem dX5_next_66 : decode cX5_next 66 = .ok (.getfield 15, 3) := by decide +kernel
theorem dX5_next_69 : decode cX5_next 69 = .ok (.if_icmp .lt 11, 3) := by decide +kernel
theorem dX5_next_72 : decode cX5_next 72 = .ok (.aload_n 0, 1) := by decide +kernel
theorem dX5_next_73 : decode cX5_next 73 = .ok (.iconst 0, 1) := by decide +kernel
theorem dX5_next_74 : decode cX5_next 74 = .ok (.putfield 35, 3) := by decide +kernel
theorem dX5_next_77 : decode cX5_next 77 = .ok (.goto 130, 3) := by decide +kernel
theorem dX5_next_80 : decode cX5_next 80 = .ok (.aload_n 0, 1) := by decide +kernel
theorem dX5_next_81 : decode cX5_next 81 = .ok (.getfield 9, 3) := by decide +kernel
theorem dX5_next_84 : decode cX5_next 84 = .ok (.aload_n 0, 1) := by decide +kernel
theorem dX5_next_85 : decode cX5_next 85 = .ok (.getfield 25, 3) := by decide +kernel
theorem dX5_next_88 : decode cX5_next 88 = .ok (.invokestatic 28, 3) := by decide +kernel
theorem dX5_next_91 : decode cX5_next 91 = .ok (.invokestatic 38, 3) := by decide +kernel
theorem dX5_next_94 : decode cX5_next 94 = .ok (.ifCond .eq 49, 3) := by decide +kernel
theorem dX5_next_97 : decode cX5_next 97 = .ok (.aload_n 0, 1) := by decide +kernel
theorem dX5_next_98 : decode cX5_next 98 = .ok (.iconst 1, 1) := by decide +kernel
theorem dX5_next_99 : decode cX5_next 99 = .ok (.putfield 35, 3) := by decide +kernel
theorem dX5_next_102 : decode cX5_next 102 = .ok (.aload_n 0, 1) := by decide +kernel
theorem dX5_next_103 : decode cX5_next 103 = .ok (.getfield 19, 3) := by decide +kernel
theorem dX5_next_106 : decode cX5_next 106 = .ok (.aload_n 0, 1) := by decide +kernel
theorem dX5_next_107 : decode cX5_next 107 = .ok (.getfield 15, 3) := by decide +kernel
theorem dX5_next_110 : decode cX5_next 110 = .ok (.if_icmp .ge 97, 3) := by decide +kernel
theorem dX5_next_113 : decode cX5_next 113 = .ok (.aload_n 0, 1) := by decide +kernel
theorem dX5_next_114 : decode cX5_next 114 = .ok (.getfield 9, 3) := by decide +kernel
theorem dX5_next_117 : decode cX5_next 117 = .ok (.aload_n 0, 1) := by decide +kernel
theorem dX5_next_118 : decode cX5_next 118 = .ok (.getfield 19, 3) := by decide +kernel
theorem dX5_next_121 : decode cX5_next 121 = .ok (.invokestatic 28, 3) := by decide +kernel
theorem dX5_next_124 : decode cX5_next 124 = .ok (.invokestatic 38, 3) := by decide +kernel
theorem dX5_next_127 : decode cX5_next 127 = .ok (.ifCond .eq 80, 3) := by decide +kernel
theorem dX5_next_130 : decode cX5_next 130 = .ok (.aload_n 0, 1) := by decide +kernel
theorem dX5_next_131 : decode cX5_next 131 = .ok (.dup, 1) := by decide +kernel
theorem dX5_next_132 : decode cX5_next 132 = .ok (.getfield 19, 3) := by decide +kernel
theorem dX5_next_135 : decode cX5_next 135 = .ok (.iconst 1, 1) := by decide +kernel
theorem dX5_next_136 : decode cX5_next 136 = .ok (.iadd, 1) := by decide +kernel
theorem dX5_next_137 : decode cX5_next 137 = .ok (.putfield 19, 3) := by decide +kernel
theorem dX5_next_140 : decode cX5_next 140 = .ok (.goto (-38), 3) := by decide +kernel
theorem dX5_next_143 : decode cX5_next 143 = .ok (.aload_n 0, 1) := by decide +kernel
theorem dX5_next_144 : decode cX5_next 144 = .ok (.getfield 9, 3) := by decide +kernel
theorem dX5_next_147 : decode cX5_next 147 = .ok (.aload_n 0, 1) := by decide +kernel
theorem dX5_next_148 : decode cX5_next 148 = .ok (.getfield 25, 3) := by decide +kernel
theorem dX5_next_151 : decode cX5_next 151 = .ok (.invokestatic 28, 3) := by decide +kernel
theorem dX5_next_154 : decode cX5_next 154 = .ok (.invokestatic 42, 3) := by decide +kernel
theorem dX5_next_157 : decode cX5_next 157 = .ok (.ifCond .eq 15, 3) := by decide +kernel
theorem dX5_next_160 : decode cX5_next 160 = .ok (.aload_n 0, 1) := by decide +kernel
theorem dX5_next_161 : decode cX5_next 161 = .ok (.iconst 2, 1) := by decide +kernel
theorem dX5_next_162 : decode cX5_next 162 = .ok (.putfield 35, 3) := by decide +kernel
theorem dX5_next_165 : decode cX5_next 165 = .ok (.aload_n 0, 1) := by decide +kernel
theorem dX5_next_166 : decode cX5_next 166 = .ok (.invokevirtual 45, 3) := by decide +kernel
theorem dX5_next_169 : decode cX5_next 169 = .ok (.goto 38, 3) := by decide +kernel
theorem dX5_next_172 : decode cX5_next 172 = .ok (.aload_n 0, 1) := by decide +kernel
theorem dX5_next_173 : decode cX5_next 173 = .ok (.aload_n 0, 1) := by decide +kernel
theorem dX5_next_174 : decode cX5_next 174 = .ok (.getfield 9, 3) := by decide +kernel
theorem dX5_next_177 : decode cX5_next 177 = .ok (.aload_n 0, 1) := by decide +kernel
theorem dX5_next_178 : decode cX5_next 178 = .ok (.getfield 25, 3) := by decide +kernel
theorem dX5_next_181 : decode cX5_next 181 = .ok (.invokestatic 28, 3) := by decide +kernel
theorem dX5_next_184 : decode cX5_next 184 = .ok (.bipush 59, 2) := by decide +kernel
theorem dX5_next_186 : decode cX5_next 186 = .ok (.if_icmp .ne 7, 3) := by decide +kernel
theorem dX5_next_189 : decode cX5_next 189 = .ok (.iconst 3, 1) := by decide +kernel
theorem dX5_next_190 : decode cX5_next 190 = .ok (.goto 4, 3) := by decide +kernel
theorem dX5_next_193 : decode cX5_next 193 = .ok (.iconst 4, 1) := by decide +kernel
theorem dX5_next_194 : decode cX5_next 194 = .ok (.putfield 35, 3) := by decide +kernel
theorem dX5_next_197 : decode cX5_next 197 = .ok (.aload_n 0, 1) := by decide +kernel
theorem dX5_next_198 : decode cX5_next 198 = .ok (.dup, 1) := by decide +kernel
theorem dX5_next_199 : decode cX5_next 199 = .ok (.getfield 19, 3) := by decide +kernel
theorem dX5_next_202 : decode cX5_next 202 = .ok (.iconst 1, 1) := by decide +kernel
theorem dX5_next_203 : decode cX5_next 203 = .ok (.iadd, 1) := by decide +kernel
theorem dX5_next_204 : decode cX5_next 204 = .ok (.putfield 19, 3) := by decide +kernel
theorem dX5_next_207 : decode cX5_next 207 = .ok (.return_, 1) := by decide +kernel
set_option maxRecDepth 20000 in
theorem ggX5_readNumber_X6_at : GoodIn wsX5_readNumber wsX6_at := goodIn_r _ [11] (by decide +kernel) (by decide +kernel)
set_option maxRecDepth 20000 in
theorem gX5_readNumber_X6_at_n28 : GoodIn wsX5_readNumber (wsX6_at) := ggX5_readNumber_X6_at
set_option maxRecDepth 20000 in
theorem ggX5_readNumber_X5_isDigit : GoodIn wsX5_readNumber wsX5_isDigit := goodIn_r _ [15] (by decide +kernel) (by decide +kernel)
set_option maxRecDepth 20000 in
theorem gX5_readNumber_X5_isDigit : GoodIn wsX5_readNumber (va_wsS RX5 42 yX5_isDigit wsX5_isDigit) := goodIn_app (goodIn_of _ (by decide +kernel)) ggX5_readNumber_X5_isDigit
theorem dX5_readNumber_0 : decode cX5_readNumber 0 = .ok (.aload_n 0, 1) := by decide +kernel
theorem dX5_readNumber_1 : decode cX5_readNumber 1 = .ok (.iconst 0, 1) := by decide +kernel
theorem dX5_readNumber_2 : decode cX5_readNumber 2 = .ok (.putfield 32, 3) := by decide +kernel
theorem dX5_readNumber_5 : decode cX5_readNumber 5 = .ok (.aload_n 0, 1) := by decide +kernel
theorem dX5_readNumber_6 : decode cX5_readNumber 6 = .ok (.getfield 19, 3) := by decide +kernel
theorem dX5_readNumber_9 : decode cX5_readNumber 9 = .ok (.aload_n 0, 1) := by decide +kernel
theorem dX5_readNumber_10 : decode cX5_readNumber 10 = .ok (.getfield 15, 3) := by decide +kernel
theorem dX5_readNumber_13 : decode cX5_readNumber 13 = .ok (.if_icmp .ge 65, 3) := by decide +kernel
theorem dX5_readNumber_16 : decode cX5_readNumber 16 = .ok (.aload_n 0, 1) := by decide +kernel
theorem dX5_readNumber_17 : decode cX5_readNumber 17 = .ok (.getfield 9, 3) := by decide +kernel
theorem dX5_readNumber_20 : decode cX5_readNumber 20 = .ok (.aload_n 0, 1) := by decide +kernel
theorem dX5_readNumber_21 : decode cX5_readNumber 21 = .ok (.getfield 19, 3) := by decide +kernel
theorem dX5_readNumber_24 : decode cX5_readNumber 24 = .ok (.invokestatic 28, 3) := by decide +kernel
theorem dX5_readNumber_27 : decode cX5_readNumber 27 = .ok (.invokestatic 42, 3) := by decide +kernel
theorem dX5_readNumber_30 : decode cX5_readNumber 30 = .ok (.ifCond .eq 48, 3) := by decide +kernel
theorem dX5_readNumber_33 : decode cX5_readNumber 33 = .ok (.aload_n 0, 1) := by decide +kernel
theorem dX5_readNumber_34 : decode cX5_readNumber 34 = .ok (.aload_n 0, 1) := by decide +kernel
theorem dX5_readNumber_35 : decode cX5_readNumber 35 = .ok (.getfield 32, 3) := by decide +kernel
theorem dX5_readNumber_38 : decode cX5_readNumber 38 = .ok (.bipush 10, 2) := by decide +kernel
theorem dX5_readNumber_40 : decode cX5_readNumber 40 = .ok (.imul, 1) := by decide +kernel
theorem dX5_readNumber_41 : decode cX5_readNumber 41 = .ok (.aload_n 0, 1) := by decide +kernel
theorem dX5_readNumber_42 : decode cX5_readNumber 42 = .ok (.getfield 9, 3) := by decide +kernel
theorem dX5_readNumber_45 : decode cX5_readNumber 45 = .ok (.aload_n 0, 1) := by decide +kernel
theorem dX5_readNumber_46 : decode cX5_readNumber 46 = .ok (.getfield 19, 3) := by decide +kernel
theorem dX5_readNumber_49 : decode cX5_readNumber 49 = .ok (.invokestatic 28, 3) := by decide +kernel
theorem dX5_readNumber_52 : decode cX5_readNumber 52 = .ok (.iadd, 1) := by decide +kernel
theorem dX5_readNumber_53 : decode cX5_readNumber 53 = .ok (.bipush 48, 2) := by decide +kernel
theorem dX5_readNumber_55 : decode cX5_readNumber 55 = .ok (.isub, 1) := by decide +kernel
theorem dX5_readNumber_56 : decode cX5_readNumber 56 = .ok (.sipush 1000, 3) := by decide +kernel
theorem dX5_readNumber_59 : decode cX5_readNumber 59 = .ok (.invokestatic 48, 3) := by decide +kernel
theorem dX5_readNumber_62 : decode cX5_readNumber 62 = .ok (.putfield 32, 3) := by decide +kernel
theorem dX5_readNumber_65 : decode cX5_readNumber 65 = .ok (.aload_n 0, 1) := by decide +kernel
theorem dX5_readNumber_66 : decode cX5_readNumber 66 = .ok (.dup, 1) := by decide +kernel
theorem dX5_readNumber_67 : decode cX5_readNumber 67 = .ok (.getfield 19, 3) := by decide +kernel
theorem dX5_readNumber_70 : decode cX5_readNumber 70 = .ok (.iconst 1, 1) := by decide +kernel
theorem dX5_readNumber_71 : decode cX5_readNumber 71 = .ok (.iadd, 1) := by decide +kernel
theorem dX5_readNumber_72 : decode cX5_readNumber 72 = .ok (.putfield 19, 3) := by decide +kernel
theorem dX5_readNumber_75 : decode cX5_readNumber 75 = .ok (.goto (-70), 3) := by decide +kernel
theorem dX5_readNumber_78 : decode cX5_readNumber 78 = .ok (.return_, 1) := by decide +kernel
theorem dX5_isLetter_0 : decode cX5_isLetter 0 = .ok (.iload_n 0, 1) := by decide +kernel
theorem dX5_isLetter_1 : decode cX5_isLetter 1 = .ok (.bipush 97, 2) := by decide +kernel
theorem dX5_isLetter_3 : decode cX5_isLetter 3 = .ok (.if_icmp .lt 13, 3) := by decide +kernel
theorem dX5_isLetter_6 : decode cX5_isLetter 6 = .ok (.iload_n 0, 1) := by decide +kernel
theorem dX5_isLetter_7 : decode cX5_isLetter 7 = .ok (.bipush 122, 2) := by decide +kernel
theorem dX5_isLetter_9 : decode cX5_isLetter 9 = .ok (.if_icmp .gt 7, 3) := by decide +kernel
theorem dX5_isLetter_12 : decode cX5_isLetter 12 = .ok (.iconst 1, 1) := by decide +kernel
theorem dX5_isLetter_13 : decode cX5_isLetter 13 = .ok (.goto 4, 3) := by decide +kernel
theorem dX5_isLetter_16 : decode cX5_isLetter 16 = .ok (.iconst 0, 1) := by decide +kernel
theorem dX5_isLetter_17 : decode cX5_isLetter 17 = .ok (.ireturn, 1) := by decide +kernel
theorem dX5_isDigit_0 : decode cX5_isDigit 0 = .ok (.iload_n 0, 1) := by decide +kernel
theorem dX5_isDigit_1 : decode cX5_isDigit 1 = .ok (.bipush 48, 2) := by decide +kernel
theorem dX5_isDigit_3 : decode cX5_isDigit 3 = .ok (.if_icmp .lt 13, 3) := by decide +kernel
theorem dX5_isDigit_6 : decode cX5_isDigit 6 = .ok (.iload_n 0, 1) := by decide +kernel
theorem dX5_isDigit_7 : decode cX5_isDigit 7 = .ok (.bipush 57, 2) := by decide +kernel
theorem dX5_isDigit_9 : decode cX5_isDigit 9 = .ok (.if_icmp .gt 7, 3) := by decide +kernel
theorem dX5_isDigit_12 : decode cX5_isDigit 12 = .ok (.iconst 1, 1) := by decide +kernel
theorem dX5_isDigit_13 : decode cX5_isDigit 13 = .ok (.goto 4, 3) := by decide +kernel
theorem dX5_isDigit_16 : decode cX5_isDigit 16 = .ok (.iconst 0, 1) := by decide +kernel
theorem dX5_isDigit_17 : decode cX5_isDigit 17 = .ok (.ireturn, 1) := by decide +kernel
theorem dX5_isNumber_0 : decode cX5_isNumber 0 = .ok (.aload_n 0, 1) := by decide +kernel
theorem dX5_isNumber_1 : decode cX5_isNumber 1 = .ok (.getfield 35, 3) := by decide +kernel
theorem dX5_isNumber_4 : decode cX5_isNumber 4 = .ok (.iconst 2, 1) := by decide +kernel
theorem dX5_isNumber_5 : decode cX5_isNumber 5 = .ok (.if_icmp .ne 15, 3) := by decide +kernel
theorem dX5_isNumber_8 : decode cX5_isNumber 8 = .ok (.aload_n 0, 1) := by decide +kernel
theorem dX5_isNumber_9 : decode cX5_isNumber 9 = .ok (.getfield 32, 3) := by decide +kernel
theorem dX5_isNumber_12 : decode cX5_isNumber 12 = .ok (.iload_n 1, 1) := by decide +kernel
theorem dX5_isNumber_13 : decode cX5_isNumber 13 = .ok (.if_icmp .gt 7, 3) := by decide +kernel
theorem dX5_isNumber_16 : decode cX5_isNumber 16 = .ok (.iconst 1, 1) := by decide +kernel
theorem dX5_isNumber_17 : decode cX5_isNumber 17 = .ok (.goto 4, 3) := by decide +kernel
theorem dX5_isNumber_20 : decode cX5_isNumber 20 = .ok (.iconst 0, 1) := by decide +kernel
theorem dX5_isNumber_21 : decode cX5_isNumber 21 = .ok (.ireturn, 1) := by decide +kernel
set_option maxRecDepth 20000 in
theorem ggX5_isWord_J0_length_8abf5 : GoodIn wsX5_isWord wsJ0_length_8abf5 := goodIn_r _ [9, 10, 11, 12, 13, 8, 14, 15, 16] (by decide +kernel) (by decide +kernel)
set_option maxRecDepth 20000 in
theorem gX5_isWord_J0_length_8abf5 : GoodIn wsX5_isWord (wsV RX5 54 RJ0 yJ0_length_8abf5 wsJ0_length_8abf5) := goodIn_app (goodIn_of _ (by decide +kernel)) ggX5_isWord_J0_length_8abf5
set_option maxRecDepth 20000 in
theorem ggX5_isWord_X6_at : GoodIn wsX5_isWord wsX6_at := goodIn_r _ [19] (by decide +kernel) (by decide +kernel)
set_option maxRecDepth 20000 in
theorem gX5_isWord_X6_at_n28 : GoodIn wsX5_isWord (wsX6_at) := ggX5_isWord_X6_at
set_option maxRecDepth 20000 in
theorem ggX5_isWord_J0_charAt_5068e : GoodIn wsX5_isWord wsJ0_charAt_5068e := goodIn_r _ [23, 10, 24, 25, 26, 8, 27, 15, 16, 28, 29, 30, 31, 32, 33, 34, 35, 36, 37, 38, 39, 40, 41, 42, 43, 44, 45, 46, 47, 48, 49, 50, 51, 52, 53, 54, 55, 56] (by decide +kernel) (by decide +kernel)
set_option maxRecDepth 20000 in
theorem gX5_isWord_J0_charAt_5068e : GoodIn wsX5_isWord (wsV RX5 59 RJ0 yJ0_charAt_5068e wsJ0_charAt_5068e) := goodIn_app (goodIn_of _ (by decide +kernel)) ggX5_isWord_J0_charAt_5068e
theorem dX5_isWord_0 : decode cX5_isWord 0 = .ok (.aload_n 0, 1) := by decide +kernel
theorem dX5_isWord_1 : decode cX5_isWord 1 = .ok (.getfield 35, 3) := by decide +kernel
theorem dX5_isWord_4 : decode cX5_isWord 4 = .ok (.iconst 1, 1) := by decide +kernel
theorem dX5_isWord_5 : decode cX5_isWord 5 = .ok (.if_icmp .ne 19, 3) := by decide +kernel
theorem dX5_isWord_8 : decode cX5_isWord 8 = .ok (.aload_n 1, 1) := by decide +kernel
theorem dX5_isWord_9 : decode cX5_isWord 9 = .ok (.invokevirtual 54, 3) := by decide +kernel
theorem dX5_isWord_12 : decode cX5_isWord 12 = .ok (.aload_n 0, 1) := by decide +kernel
theorem dX5_isWord_13 : decode cX5_isWord 13 = .ok (.getfield 19, 3) := by decide +kernel
theorem dX5_isWord_16 : decode cX5_isWord 16 = .ok (.aload_n 0, 1) := by decide +kernel
theorem dX5_isWord_17 : decode cX5_isWord 17 = .ok (.getfield 25, 3) := by decide +kernel
theorem dX5_isWord_20 : decode cX5_isWord 20 = .ok (.isub, 1) := by decide +kernel
theorem dX5_isWord_21 : decode cX5_isWord 21 = .ok (.if_icmp .eq 5, 3) := by decide +kernel
theorem dX5_isWord_24 : decode cX5_isWord 24 = .ok (.iconst 0, 1) := by decide +kernel
theorem dX5_isWord_25 : decode cX5_isWord 25 = .ok (.ireturn, 1) := by decide +kernel
theorem dX5_isWord_26 : decode cX5_isWord 26 = .ok (.iconst 0, 1) := by decide +kernel
theorem dX5_isWord_27 : decode cX5_isWord 27 = .ok (.istore_n 2, 1) := by decide +kernel
theorem dX5_isWord_28 : decode cX5_isWord 28 = .ok (.iload_n 2, 1) := by decide +kernel
theorem dX5_isWord_29 : decode cX5_isWord 29 = .ok (.aload_n 1, 1) := by decide +kernel
theorem dX5_isWord_30 : decode cX5_isWord 30 = .ok (.invokevirtual 54, 3) := by decide +kernel
theorem dX5_isWord_33 : decode cX5_isWord 33 = .ok (.if_icmp .ge 32, 3) := by decide +kernel
theorem dX5_isWord_36 : decode cX5_isWord 36 = .ok (.aload_n 0, 1) := by decide +kernel
theorem dX5_isWord_37 : decode cX5_isWord 37 = .ok (.getfield 9, 3) := by decide +kernel
theorem dX5_isWord_40 : decode cX5_isWord 40 = .ok (.aload_n 0, 1) := by decide +kernel
theorem dX5_isWord_41 : decode cX5_isWord 41 = .ok (.getfield 25, 3) := by decide +kernel
theorem dX5_isWord_44 : decode cX5_isWord 44 = .ok (.iload_n 2, 1) := by decide +kernel
theorem dX5_isWord_45 : decode cX5_isWord 45 = .ok (.iadd, 1) := by decide +kernel
theorem dX5_isWord_46 : decode cX5_isWord 46 = .ok (.invokestatic 28, 3) := by decide +kernel
theorem dX5_isWord_49 : decode cX5_isWord 49 = .ok (.aload_n 1, 1) := by decide +kernel
theorem dX5_isWord_50 : decode cX5_isWord 50 = .ok (.iload_n 2, 1) := by decide +kernel
theorem dX5_isWord_51 : decode cX5_isWord 51 = .ok (.invokevirtual 59, 3) := by decide +kernel
theorem dX5_isWord_54 : decode cX5_isWord 54 = .ok (.if_icmp .eq 5, 3) := by decide +kernel
theorem dX5_isWord_57 : decode cX5_isWord 57 = .ok (.iconst 0, 1) := by decide +kernel
theorem dX5_isWord_58 : decode cX5_isWord 58 = .ok (.ireturn, 1) := by decide +kernel
theorem dX5_isWord_59 : decode cX5_isWord 59 = .ok (.iinc 2 1, 3) := by decide +kernel
theorem dX5_isWord_62 : decode cX5_isWord 62 = .ok (.goto (-34), 3) := by decide +kernel
theorem dX5_isWord_65 : decode cX5_isWord 65 = .ok (.iconst 1, 1) := by decide +kernel
theorem dX5_isWord_66 : decode cX5_isWord 66 = .ok (.ireturn, 1) := by decide +kernel
