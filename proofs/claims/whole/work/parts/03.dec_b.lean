theorem dX7_init_0 : decode cX7_init 0 = .ok (.aload_n 0, 1) := by decide +kernel
theorem dX7_init_1 : decode cX7_init 1 = .ok (.invokespecial 1, 3) := by decide +kernel
theorem dX7_init_4 : decode cX7_init 4 = .ok (.aload_n 0, 1) := by decide +kernel
theorem dX7_init_5 : decode cX7_init 5 = .ok (.new 7, 3) := by decide +kernel
theorem dX7_init_8 : decode cX7_init 8 = .ok (.dup, 1) := by decide +kernel
theorem dX7_init_9 : decode cX7_init 9 = .ok (.invokespecial 9, 3) := by decide +kernel
theorem dX7_init_12 : decode cX7_init 12 = .ok (.putfield 10, 3) := by decide +kernel
theorem dX7_init_15 : decode cX7_init 15 = .ok (.aload_n 0, 1) := by decide +kernel
theorem dX7_init_16 : decode cX7_init 16 = .ok (.new 16, 3) := by decide +kernel
theorem dX7_init_19 : decode cX7_init 19 = .ok (.dup, 1) := by decide +kernel
theorem dX7_init_20 : decode cX7_init 20 = .ok (.aload_n 0, 1) := by decide +kernel
theorem dX7_init_21 : decode cX7_init 21 = .ok (.getfield 10, 3) := by decide +kernel
theorem dX7_init_24 : decode cX7_init 24 = .ok (.invokespecial 18, 3) := by decide +kernel
theorem dX7_init_27 : decode cX7_init 27 = .ok (.putfield 21, 3) := by decide +kernel
theorem dX7_init_30 : decode cX7_init 30 = .ok (.aload_n 0, 1) := by decide +kernel
theorem dX7_init_31 : decode cX7_init 31 = .ok (.new 25, 3) := by decide +kernel
theorem dX7_init_34 : decode cX7_init 34 = .ok (.dup, 1) := by decide +kernel
theorem dX7_init_35 : decode cX7_init 35 = .ok (.aload_n 0, 1) := by decide +kernel
theorem dX7_init_36 : decode cX7_init 36 = .ok (.getfield 21, 3) := by decide +kernel
theorem dX7_init_39 : decode cX7_init 39 = .ok (.invokespecial 27, 3) := by decide +kernel
theorem dX7_init_42 : decode cX7_init 42 = .ok (.putfield 30, 3) := by decide +kernel
theorem dX7_init_45 : decode cX7_init 45 = .ok (.aload_n 0, 1) := by decide +kernel
theorem dX7_init_46 : decode cX7_init 46 = .ok (.new 34, 3) := by decide +kernel
theorem dX7_init_49 : decode cX7_init 49 = .ok (.dup, 1) := by decide +kernel
theorem dX7_init_50 : decode cX7_init 50 = .ok (.invokespecial 36, 3) := by decide +kernel
theorem dX7_init_53 : decode cX7_init 53 = .ok (.putfield 37, 3) := by decide +kernel
theorem dX7_init_56 : decode cX7_init 56 = .ok (.aload_n 0, 1) := by decide +kernel
theorem dX7_init_57 : decode cX7_init 57 = .ok (.new 41, 3) := by decide +kernel
theorem dX7_init_60 : decode cX7_init 60 = .ok (.dup, 1) := by decide +kernel
theorem dX7_init_61 : decode cX7_init 61 = .ok (.invokespecial 43, 3) := by decide +kernel
theorem dX7_init_64 : decode cX7_init 64 = .ok (.putfield 44, 3) := by decide +kernel
theorem dX7_init_67 : decode cX7_init 67 = .ok (.aload_n 0, 1) := by decide +kernel
theorem dX7_init_68 : decode cX7_init 68 = .ok (.new 41, 3) := by decide +kernel
theorem dX7_init_71 : decode cX7_init 71 = .ok (.dup, 1) := by decide +kernel
theorem dX7_init_72 : decode cX7_init 72 = .ok (.invokespecial 43, 3) := by decide +kernel
theorem dX7_init_75 : decode cX7_init 75 = .ok (.putfield 48, 3) := by decide +kernel
theorem dX7_init_78 : decode cX7_init 78 = .ok (.aload_n 0, 1) := by decide +kernel
theorem dX7_init_79 : decode cX7_init 79 = .ok (.new 51, 3) := by decide +kernel
theorem dX7_init_82 : decode cX7_init 82 = .ok (.dup, 1) := by decide +kernel
theorem dX7_init_83 : decode cX7_init 83 = .ok (.invokespecial 53, 3) := by decide +kernel
theorem dX7_init_86 : decode cX7_init 86 = .ok (.putfield 54, 3) := by decide +kernel
theorem dX7_init_89 : decode cX7_init 89 = .ok (.aload_n 0, 1) := by decide +kernel
theorem dX7_init_90 : decode cX7_init 90 = .ok (.bipush 6, 2) := by decide +kernel
theorem dX7_init_92 : decode cX7_init 92 = .ok (.anewarray 58, 3) := by decide +kernel
theorem dX7_init_95 : decode cX7_init 95 = .ok (.putfield 60, 3) := by decide +kernel
theorem dX7_init_98 : decode cX7_init 98 = .ok (.iconst 0, 1) := by decide +kernel
theorem dX7_init_99 : decode cX7_init 99 = .ok (.istore_n 1, 1) := by decide +kernel
theorem dX7_init_100 : decode cX7_init 100 = .ok (.iload_n 1, 1) := by decide +kernel
theorem dX7_init_101 : decode cX7_init 101 = .ok (.bipush 6, 2) := by decide +kernel
theorem dX7_init_103 : decode cX7_init 103 = .ok (.if_icmp .ge 22, 3) := by decide +kernel
theorem dX7_init_106 : decode cX7_init 106 = .ok (.aload_n 0, 1) := by decide +kernel
theorem dX7_init_107 : decode cX7_init 107 = .ok (.getfield 60, 3) := by decide +kernel
theorem dX7_init_110 : decode cX7_init 110 = .ok (.iload_n 1, 1) := by decide +kernel
theorem dX7_init_111 : decode cX7_init 111 = .ok (.new 58, 3) := by decide +kernel
theorem dX7_init_114 : decode cX7_init 114 = .ok (.dup, 1) := by decide +kernel
theorem dX7_init_115 : decode cX7_init 115 = .ok (.invokespecial 64, 3) := by decide +kernel
theorem dX7_init_118 : decode cX7_init 118 = .ok (.aastore, 1) := by decide +kernel
theorem dX7_init_119 : decode cX7_init 119 = .ok (.iinc 1 1, 3) := by decide +kernel
theorem dX7_init_122 : decode cX7_init 122 = .ok (.goto (-22), 3) := by decide +kernel
theorem dX7_init_125 : decode cX7_init 125 = .ok (.return_, 1) := by decide +kernel
set_option maxRecDepth 20000 in
theorem gd_wsX5_isWorld : wsX5_isWorld.all goodWord = true := by decide +kernel
set_option maxRecDepth 100000 in
theorem ggX7_world_X5_isWorld : GoodIn wsX7_world wsX5_isWorld := goodIn_r _ [6] rfl gd_wsX5_isWorld
set_option maxRecDepth 100000 in
theorem gX7_world_X5_isWorld : GoodIn wsX7_world (va_wsS RX7 65 yX5_isWorld wsX5_isWorld) := goodIn_app (goodIn_r _ [3, 4, 5] rfl (by decide +kernel)) ggX7_world_X5_isWorld
set_option maxRecDepth 100000 in
theorem ggX7_world_X5_add : GoodIn wsX7_world wsX5_add := goodIn_r _ [10, 11, 12, 13, 14, 15, 16, 17, 5, 18, 19, 20, 21, 22, 23, 24, 25, 26, 27, 39, 40, 41, 42, 43, 44, 45, 46, 47, 48, 49] rfl gd_wsX5_add
set_option maxRecDepth 100000 in
theorem gX7_world_X5_add : GoodIn wsX7_world (wsV RX7 73 RX5 yX5_add wsX5_add) := goodIn_app (goodIn_r _ [7, 8, 9, 5] rfl (by decide +kernel)) ggX7_world_X5_add
theorem dX7_world_0 : decode cX7_world 0 = .ok (.iload_n 1, 1) := by decide +kernel
theorem dX7_world_1 : decode cX7_world 1 = .ok (.ifCond .lt 18, 3) := by decide +kernel
theorem dX7_world_4 : decode cX7_world 4 = .ok (.iload_n 1, 1) := by decide +kernel
theorem dX7_world_5 : decode cX7_world 5 = .ok (.bipush 100, 2) := by decide +kernel
theorem dX7_world_7 : decode cX7_world 7 = .ok (.idiv, 1) := by decide +kernel
theorem dX7_world_8 : decode cX7_world 8 = .ok (.iload_n 1, 1) := by decide +kernel
theorem dX7_world_9 : decode cX7_world 9 = .ok (.bipush 100, 2) := by decide +kernel
theorem dX7_world_11 : decode cX7_world 11 = .ok (.irem, 1) := by decide +kernel
theorem dX7_world_12 : decode cX7_world 12 = .ok (.iload_n 2, 1) := by decide +kernel
theorem dX7_world_13 : decode cX7_world 13 = .ok (.invokestatic 65, 3) := by decide +kernel
theorem dX7_world_16 : decode cX7_world 16 = .ok (.ifCond .ne 5, 3) := by decide +kernel
theorem dX7_world_19 : decode cX7_world 19 = .ok (.iconst (-1), 1) := by decide +kernel
theorem dX7_world_20 : decode cX7_world 20 = .ok (.ireturn, 1) := by decide +kernel
theorem dX7_world_21 : decode cX7_world 21 = .ok (.aload_n 0, 1) := by decide +kernel
theorem dX7_world_22 : decode cX7_world 22 = .ok (.getfield 21, 3) := by decide +kernel
theorem dX7_world_25 : decode cX7_world 25 = .ok (.getfield 69, 3) := by decide +kernel
theorem dX7_world_28 : decode cX7_world 28 = .ok (.bipush 6, 2) := by decide +kernel
theorem dX7_world_30 : decode cX7_world 30 = .ok (.if_icmp .lt 6, 3) := by decide +kernel
theorem dX7_world_33 : decode cX7_world 33 = .ok (.bipush (-3), 2) := by decide +kernel
theorem dX7_world_35 : decode cX7_world 35 = .ok (.ireturn, 1) := by decide +kernel
theorem dX7_world_36 : decode cX7_world 36 = .ok (.aload_n 0, 1) := by decide +kernel
theorem dX7_world_37 : decode cX7_world 37 = .ok (.getfield 21, 3) := by decide +kernel
theorem dX7_world_40 : decode cX7_world 40 = .ok (.iload_n 1, 1) := by decide +kernel
theorem dX7_world_41 : decode cX7_world 41 = .ok (.bipush 100, 2) := by decide +kernel
theorem dX7_world_43 : decode cX7_world 43 = .ok (.idiv, 1) := by decide +kernel
theorem dX7_world_44 : decode cX7_world 44 = .ok (.iload_n 1, 1) := by decide +kernel
theorem dX7_world_45 : decode cX7_world 45 = .ok (.bipush 100, 2) := by decide +kernel
theorem dX7_world_47 : decode cX7_world 47 = .ok (.irem, 1) := by decide +kernel
theorem dX7_world_48 : decode cX7_world 48 = .ok (.iload_n 2, 1) := by decide +kernel
theorem dX7_world_49 : decode cX7_world 49 = .ok (.invokevirtual 73, 3) := by decide +kernel
theorem dX7_world_52 : decode cX7_world 52 = .ok (.ireturn, 1) := by decide +kernel
set_option maxRecDepth 20000 in
theorem gd_wsX7_isShelf : wsX7_isShelf.all goodWord = true := by decide +kernel
set_option maxRecDepth 100000 in
theorem ggX7_worlds_X7_isShelf : GoodIn wsX7_worlds wsX7_isShelf := goodIn_r _ [8] rfl gd_wsX7_isShelf
set_option maxRecDepth 100000 in
theorem gX7_worlds_X7_isShelf : GoodIn wsX7_worlds (va_wsS RX7 77 yX7_isShelf wsX7_isShelf) := goodIn_app (goodIn_r _ [5, 6, 7] rfl (by decide +kernel)) ggX7_worlds_X7_isShelf
set_option maxRecDepth 20000 in
theorem gd_wsX4_holdsNothing : wsX4_holdsNothing.all goodWord = true := by decide +kernel
set_option maxRecDepth 100000 in
theorem ggX7_worlds_X4_holdsNothing : GoodIn wsX7_worlds wsX4_holdsNothing := goodIn_r _ [13, 14, 15, 72, 73, 74, 75] rfl gd_wsX4_holdsNothing
set_option maxRecDepth 100000 in
theorem gX7_worlds_X4_holdsNothing : GoodIn wsX7_worlds (wsV RX7 81 RX4 yX4_holdsNothing wsX4_holdsNothing) := goodIn_app (goodIn_r _ [9, 10, 11, 12] rfl (by decide +kernel)) ggX7_worlds_X4_holdsNothing
set_option maxRecDepth 20000 in
theorem gd_wsX4_holdsRowOf : wsX4_holdsRowOf.all goodWord = true := by decide +kernel
set_option maxRecDepth 100000 in
theorem ggX7_worlds_X4_holdsRowOf : GoodIn wsX7_worlds wsX4_holdsRowOf := goodIn_r _ [19, 14, 72, 73, 74, 75] rfl gd_wsX4_holdsRowOf
set_option maxRecDepth 100000 in
theorem gX7_worlds_X4_holdsRowOf : GoodIn wsX7_worlds (wsV RX7 85 RX4 yX4_holdsRowOf wsX4_holdsRowOf) := goodIn_app (goodIn_r _ [16, 17, 18, 12] rfl (by decide +kernel)) ggX7_worlds_X4_holdsRowOf
set_option maxRecDepth 20000 in
theorem gd_wsX4_hasPlaces : wsX4_hasPlaces.all goodWord = true := by decide +kernel
set_option maxRecDepth 100000 in
theorem ggX7_worlds_X4_hasPlaces : GoodIn wsX7_worlds wsX4_hasPlaces := goodIn_r _ [23, 24, 72, 73, 74, 75] rfl gd_wsX4_hasPlaces
set_option maxRecDepth 100000 in
theorem gX7_worlds_X4_hasPlaces : GoodIn wsX7_worlds (wsV RX7 88 RX4 yX4_hasPlaces wsX4_hasPlaces) := goodIn_app (goodIn_r _ [20, 21, 22, 12] rfl (by decide +kernel)) ggX7_worlds_X4_hasPlaces
set_option maxRecDepth 100000 in
theorem ggX7_worlds_X5_isWorld : GoodIn wsX7_worlds wsX5_isWorld := goodIn_r _ [28] rfl gd_wsX5_isWorld
set_option maxRecDepth 100000 in
theorem gX7_worlds_X5_isWorld : GoodIn wsX7_worlds (va_wsS RX7 65 yX5_isWorld wsX5_isWorld) := goodIn_app (goodIn_r _ [25, 26, 27] rfl (by decide +kernel)) ggX7_worlds_X5_isWorld
set_option maxRecDepth 100000 in
theorem ggX7_worlds_X5_add : GoodIn wsX7_worlds wsX5_add := goodIn_r _ [32, 33, 34, 35, 36, 37, 38, 39, 27, 40, 41, 42, 43, 44, 45, 46, 47, 48, 49, 61, 62, 63, 64, 65, 66, 67, 68, 69, 70, 71] rfl gd_wsX5_add
set_option maxRecDepth 100000 in
theorem gX7_worlds_X5_add : GoodIn wsX7_worlds (wsV RX7 73 RX5 yX5_add wsX5_add) := goodIn_app (goodIn_r _ [29, 30, 31, 27] rfl (by decide +kernel)) ggX7_worlds_X5_add
theorem dX7_worlds_0 : decode cX7_worlds 0 = .ok (.iload_n 1, 1) := by decide +kernel
theorem dX7_worlds_1 : decode cX7_worlds 1 = .ok (.invokestatic 77, 3) := by decide +kernel
theorem dX7_worlds_4 : decode cX7_worlds 4 = .ok (.ifCond .eq 14, 3) := by decide +kernel
theorem dX7_worlds_7 : decode cX7_worlds 7 = .ok (.iload_n 3, 1) := by decide +kernel
theorem dX7_worlds_8 : decode cX7_worlds 8 = .ok (.iconst 1, 1) := by decide +kernel
theorem dX7_worlds_9 : decode cX7_worlds 9 = .ok (.if_icmp .lt 9, 3) := by decide +kernel
theorem dX7_worlds_12 : decode cX7_worlds 12 = .ok (.iload_n 3, 1) := by decide +kernel
theorem dX7_worlds_13 : decode cX7_worlds 13 = .ok (.bipush 6, 2) := by decide +kernel
theorem dX7_worlds_15 : decode cX7_worlds 15 = .ok (.if_icmp .le 5, 3) := by decide +kernel
theorem dX7_worlds_18 : decode cX7_worlds 18 = .ok (.iconst (-1), 1) := by decide +kernel
theorem dX7_worlds_19 : decode cX7_worlds 19 = .ok (.ireturn, 1) := by decide +kernel
theorem dX7_worlds_20 : decode cX7_worlds 20 = .ok (.aload_n 0, 1) := by decide +kernel
theorem dX7_worlds_21 : decode cX7_worlds 21 = .ok (.getfield 60, 3) := by decide +kernel
theorem dX7_worlds_24 : decode cX7_worlds 24 = .ok (.iload_n 1, 1) := by decide +kernel
theorem dX7_worlds_25 : decode cX7_worlds 25 = .ok (.aaload, 1) := by decide +kernel
theorem dX7_worlds_26 : decode cX7_worlds 26 = .ok (.astore 4, 2) := by decide +kernel
theorem dX7_worlds_28 : decode cX7_worlds 28 = .ok (.aload 4, 2) := by decide +kernel
theorem dX7_worlds_30 : decode cX7_worlds 30 = .ok (.invokevirtual 81, 3) := by decide +kernel
theorem dX7_worlds_33 : decode cX7_worlds 33 = .ok (.ifCond .eq 5, 3) := by decide +kernel
theorem dX7_worlds_36 : decode cX7_worlds 36 = .ok (.iconst 0, 1) := by decide +kernel
theorem dX7_worlds_37 : decode cX7_worlds 37 = .ok (.ireturn, 1) := by decide +kernel
theorem dX7_worlds_38 : decode cX7_worlds 38 = .ok (.aload 4, 2) := by decide +kernel
theorem dX7_worlds_40 : decode cX7_worlds 40 = .ok (.iconst 0, 1) := by decide +kernel
theorem dX7_worlds_41 : decode cX7_worlds 41 = .ok (.invokevirtual 85, 3) := by decide +kernel
theorem dX7_worlds_44 : decode cX7_worlds 44 = .ok (.ifCond .ne 6, 3) := by decide +kernel
theorem dX7_worlds_47 : decode cX7_worlds 47 = .ok (.bipush (-12), 2) := by decide +kernel
theorem dX7_worlds_49 : decode cX7_worlds 49 = .ok (.ireturn, 1) := by decide +kernel
theorem dX7_worlds_50 : decode cX7_worlds 50 = .ok (.iconst 0, 1) := by decide +kernel
theorem dX7_worlds_51 : decode cX7_worlds 51 = .ok (.istore 5, 2) := by decide +kernel
theorem dX7_worlds_53 : decode cX7_worlds 53 = .ok (.iload_n 2, 1) := by decide +kernel
theorem dX7_worlds_54 : decode cX7_worlds 54 = .ok (.istore 6, 2) := by decide +kernel
theorem dX7_worlds_56 : decode cX7_worlds 56 = .ok (.iload 5, 2) := by decide +kernel
theorem dX7_worlds_58 : decode cX7_worlds 58 = .ok (.iload_n 3, 1) := by decide +kernel
theorem dX7_worlds_59 : decode cX7_worlds 59 = .ok (.if_icmp .ge 101, 3) := by decide +kernel
theorem dX7_worlds_62 : decode cX7_worlds 62 = .ok (.aload 4, 2) := by decide +kernel
theorem dX7_worlds_64 : decode cX7_worlds 64 = .ok (.iload 6, 2) := by decide +kernel
theorem dX7_worlds_66 : decode cX7_worlds 66 = .ok (.iconst 3, 1) := by decide +kernel
theorem dX7_worlds_67 : decode cX7_worlds 67 = .ok (.invokevirtual 88, 3) := by decide +kernel
theorem dX7_worlds_70 : decode cX7_worlds 70 = .ok (.ifCond .eq 90, 3) := by decide +kernel
theorem dX7_worlds_73 : decode cX7_worlds 73 = .ok (.aload_n 0, 1) := by decide +kernel
theorem dX7_worlds_74 : decode cX7_worlds 74 = .ok (.getfield 21, 3) := by decide +kernel
theorem dX7_worlds_77 : decode cX7_worlds 77 = .ok (.getfield 69, 3) := by decide +kernel
theorem dX7_worlds_80 : decode cX7_worlds 80 = .ok (.bipush 6, 2) := by decide +kernel
theorem dX7_worlds_82 : decode cX7_worlds 82 = .ok (.if_icmp .ge 78, 3) := by decide +kernel
theorem dX7_worlds_85 : decode cX7_worlds 85 = .ok (.aload 4, 2) := by decide +kernel
theorem dX7_worlds_87 : decode cX7_worlds 87 = .ok (.getfield 92, 3) := by decide +kernel
theorem dX7_worlds_90 : decode cX7_worlds 90 = .ok (.iload 6, 2) := by decide +kernel
theorem dX7_worlds_92 : decode cX7_worlds 92 = .ok (.laload, 1) := by decide +kernel
theorem dX7_worlds_93 : decode cX7_worlds 93 = .ok (.l2i, 1) := by decide +kernel
theorem dX7_worlds_94 : decode cX7_worlds 94 = .ok (.istore 7, 2) := by decide +kernel
theorem dX7_worlds_96 : decode cX7_worlds 96 = .ok (.aload 4, 2) := by decide +kernel
theorem dX7_worlds_98 : decode cX7_worlds 98 = .ok (.getfield 92, 3) := by decide +kernel
theorem dX7_worlds_101 : decode cX7_worlds 101 = .ok (.iload 6, 2) := by decide +kernel
theorem dX7_worlds_103 : decode cX7_worlds 103 = .ok (.iconst 1, 1) := by decide +kernel
theorem dX7_worlds_104 : decode cX7_worlds 104 = .ok (.iadd, 1) := by decide +kernel
theorem dX7_worlds_105 : decode cX7_worlds 105 = .ok (.laload, 1) := by decide +kernel
theorem dX7_worlds_106 : decode cX7_worlds 106 = .ok (.l2i, 1) := by decide +kernel
theorem dX7_worlds_107 : decode cX7_worlds 107 = .ok (.istore 8, 2) := by decide +kernel
theorem dX7_worlds_109 : decode cX7_worlds 109 = .ok (.aload 4, 2) := by decide +kernel
theorem dX7_worlds_111 : decode cX7_worlds 111 = .ok (.getfield 92, 3) := by decide +kernel
theorem dX7_worlds_114 : decode cX7_worlds 114 = .ok (.iload 6, 2) := by decide +kernel
theorem dX7_worlds_116 : decode cX7_worlds 116 = .ok (.iconst 2, 1) := by decide +kernel
theorem dX7_worlds_117 : decode cX7_worlds 117 = .ok (.iadd, 1) := by decide +kernel
theorem dX7_worlds_118 : decode cX7_worlds 118 = .ok (.laload, 1) := by decide +kernel
theorem dX7_worlds_119 : decode cX7_worlds 119 = .ok (.l2i, 1) := by decide +kernel
theorem dX7_worlds_120 : decode cX7_worlds 120 = .ok (.istore 9, 2) := by decide +kernel
theorem dX7_worlds_122 : decode cX7_worlds 122 = .ok (.iload 7, 2) := by decide +kernel
theorem dX7_worlds_124 : decode cX7_worlds 124 = .ok (.iload 8, 2) := by decide +kernel
theorem dX7_worlds_126 : decode cX7_worlds 126 = .ok (.iload 9, 2) := by decide +kernel
theorem dX7_worlds_128 : decode cX7_worlds 128 = .ok (.invokestatic 65, 3) := by decide +kernel
theorem dX7_worlds_131 : decode cX7_worlds 131 = .ok (.ifCond .ne 6, 3) := by decide +kernel
theorem dX7_worlds_134 : decode cX7_worlds 134 = .ok (.goto 26, 3) := by decide +kernel
theorem dX7_worlds_137 : decode cX7_worlds 137 = .ok (.aload_n 0, 1) := by decide +kernel
theorem dX7_worlds_138 : decode cX7_worlds 138 = .ok (.getfield 21, 3) := by decide +kernel
theorem dX7_worlds_141 : decode cX7_worlds 141 = .ok (.iload 7, 2) := by decide +kernel
theorem dX7_worlds_143 : decode cX7_worlds 143 = .ok (.iload 8, 2) := by decide +kernel
theorem dX7_worlds_145 : decode cX7_worlds 145 = .ok (.iload 9, 2) := by decide +kernel
theorem dX7_worlds_147 : decode cX7_worlds 147 = .ok (.invokevirtual 73, 3) := by decide +kernel
theorem dX7_worlds_150 : decode cX7_worlds 150 = .ok (.pop, 1) := by decide +kernel
theorem dX7_worlds_151 : decode cX7_worlds 151 = .ok (.iinc 5 1, 3) := by decide +kernel
theorem dX7_worlds_154 : decode cX7_worlds 154 = .ok (.iinc 6 3, 3) := by decide +kernel
theorem dX7_worlds_157 : decode cX7_worlds 157 = .ok (.goto (-101), 3) := by decide +kernel
theorem dX7_worlds_160 : decode cX7_worlds 160 = .ok (.iload 5, 2) := by decide +kernel
theorem dX7_worlds_162 : decode cX7_worlds 162 = .ok (.ireturn, 1) := by decide +kernel
set_option maxRecDepth 20000 in
theorem gd_wsX7_isMendable : wsX7_isMendable.all goodWord = true := by decide +kernel
set_option maxRecDepth 100000 in
theorem ggX7_mend_X7_isMendable : GoodIn wsX7_mend wsX7_isMendable := goodIn_r _ [6, 7, 8, 9, 5, 10, 11, 12, 71, 72, 73, 74, 75, 76, 77, 78, 79, 80, 81, 82, 83, 84, 85, 86, 87, 88, 89, 90, 91, 92] rfl gd_wsX7_isMendable
set_option maxRecDepth 100000 in
theorem gX7_mend_X7_isMendable : GoodIn wsX7_mend (wsV RX7 96 RX7 yX7_isMendable wsX7_isMendable) := goodIn_app (goodIn_r _ [2, 3, 4, 5] rfl (by decide +kernel)) ggX7_mend_X7_isMendable
set_option maxRecDepth 20000 in
theorem gd_wsX7_isFit : wsX7_isFit.all goodWord = true := by decide +kernel
set_option maxRecDepth 100000 in
theorem ggX7_mend_X7_isFit : GoodIn wsX7_mend wsX7_isFit := goodIn_r _ [16, 11, 17, 71, 72, 73, 74, 75, 76, 77, 78, 79, 80, 81, 82, 83, 84, 85, 86, 87, 88, 89, 90, 91, 92] rfl gd_wsX7_isFit
set_option maxRecDepth 100000 in
theorem gX7_mend_X7_isFit : GoodIn wsX7_mend (wsV RX7 99 RX7 yX7_isFit wsX7_isFit) := goodIn_app (goodIn_r _ [13, 14, 15, 5] rfl (by decide +kernel)) ggX7_mend_X7_isFit
set_option maxRecDepth 20000 in
theorem gd_wsX7_told : wsX7_told.all goodWord = true := by decide +kernel
set_option maxRecDepth 100000 in
theorem ggX7_mend_X7_told : GoodIn wsX7_mend wsX7_told := goodIn_r _ [21, 11, 17, 22, 23, 24, 25, 71, 72, 73, 74, 75, 76, 77, 78, 79, 80, 81, 82, 83, 84, 85, 86, 87, 88, 89, 90, 91, 92] rfl gd_wsX7_told
set_option maxRecDepth 100000 in
theorem gX7_mend_X7_told : GoodIn wsX7_mend (wsV RX7 102 RX7 yX7_told wsX7_told) := goodIn_app (goodIn_r _ [18, 19, 20, 5] rfl (by decide +kernel)) ggX7_mend_X7_told
set_option maxRecDepth 20000 in
theorem gd_wsX7_tell : wsX7_tell.all goodWord = true := by decide +kernel
set_option maxRecDepth 100000 in
theorem ggX7_mend_X7_tell : GoodIn wsX7_mend wsX7_tell := goodIn_r _ [29, 11, 17, 22, 23, 24, 25, 30, 31, 32, 33, 34, 35, 36, 37, 38, 39, 40, 41, 42, 43, 44, 45, 46, 47, 48, 49, 50, 51, 71, 72, 73, 74, 75, 76, 77, 78, 79, 80, 81, 82, 83, 84, 85, 86, 87, 88, 89, 90, 91, 92] rfl gd_wsX7_tell
set_option maxRecDepth 100000 in
theorem gX7_mend_X7_tell : GoodIn wsX7_mend (wsV RX7 106 RX7 yX7_tell wsX7_tell) := goodIn_app (goodIn_r _ [26, 27, 28, 5] rfl (by decide +kernel)) ggX7_mend_X7_tell
set_option maxRecDepth 20000 in
theorem gd_wsX0_note : wsX0_note.all goodWord = true := by decide +kernel
set_option maxRecDepth 100000 in
theorem ggX7_mend_X0_note : GoodIn wsX7_mend wsX0_note := goodIn_r _ [56, 57, 58, 59, 60, 61, 62, 63, 64, 65, 55, 66, 67, 68, 69, 70, 93, 94, 95, 96, 97, 98] rfl gd_wsX0_note
set_option maxRecDepth 100000 in
theorem gX7_mend_X0_note : GoodIn wsX7_mend (wsV RX7 110 RX0 yX0_note wsX0_note) := goodIn_app (goodIn_r _ [52, 53, 54, 55] rfl (by decide +kernel)) ggX7_mend_X0_note
theorem dX7_mend_0 : decode cX7_mend 0 = .ok (.aload_n 0, 1) := by decide +kernel
theorem dX7_mend_1 : decode cX7_mend 1 = .ok (.iload_n 1, 1) := by decide +kernel
theorem dX7_mend_2 : decode cX7_mend 2 = .ok (.iload_n 2, 1) := by decide +kernel
theorem dX7_mend_3 : decode cX7_mend 3 = .ok (.invokevirtual 96, 3) := by decide +kernel
theorem dX7_mend_6 : decode cX7_mend 6 = .ok (.ifCond .eq 13, 3) := by decide +kernel
theorem dX7_mend_9 : decode cX7_mend 9 = .ok (.aload_n 0, 1) := by decide +kernel
theorem dX7_mend_10 : decode cX7_mend 10 = .ok (.iload_n 1, 1) := by decide +kernel
theorem dX7_mend_11 : decode cX7_mend 11 = .ok (.iload_n 2, 1) := by decide +kernel
theorem dX7_mend_12 : decode cX7_mend 12 = .ok (.iload_n 3, 1) := by decide +kernel
theorem dX7_mend_13 : decode cX7_mend 13 = .ok (.invokevirtual 99, 3) := by decide +kernel
theorem dX7_mend_16 : decode cX7_mend 16 = .ok (.ifCond .ne 5, 3) := by decide +kernel
theorem dX7_mend_19 : decode cX7_mend 19 = .ok (.iconst (-1), 1) := by decide +kernel
theorem dX7_mend_20 : decode cX7_mend 20 = .ok (.ireturn, 1) := by decide +kernel
theorem dX7_mend_21 : decode cX7_mend 21 = .ok (.aload_n 0, 1) := by decide +kernel
theorem dX7_mend_22 : decode cX7_mend 22 = .ok (.iload_n 1, 1) := by decide +kernel
theorem dX7_mend_23 : decode cX7_mend 23 = .ok (.iload_n 2, 1) := by decide +kernel
theorem dX7_mend_24 : decode cX7_mend 24 = .ok (.invokevirtual 102, 3) := by decide +kernel
theorem dX7_mend_27 : decode cX7_mend 27 = .ok (.istore 4, 2) := by decide +kernel
theorem dX7_mend_29 : decode cX7_mend 29 = .ok (.iload 4, 2) := by decide +kernel
theorem dX7_mend_31 : decode cX7_mend 31 = .ok (.iload_n 3, 1) := by decide +kernel
theorem dX7_mend_32 : decode cX7_mend 32 = .ok (.if_icmp .eq 22, 3) := by decide +kernel
theorem dX7_mend_35 : decode cX7_mend 35 = .ok (.aload_n 0, 1) := by decide +kernel
theorem dX7_mend_36 : decode cX7_mend 36 = .ok (.iload_n 1, 1) := by decide +kernel
theorem dX7_mend_37 : decode cX7_mend 37 = .ok (.iload_n 2, 1) := by decide +kernel
theorem dX7_mend_38 : decode cX7_mend 38 = .ok (.iload_n 3, 1) := by decide +kernel
theorem dX7_mend_39 : decode cX7_mend 39 = .ok (.invokevirtual 106, 3) := by decide +kernel
theorem dX7_mend_42 : decode cX7_mend 42 = .ok (.aload_n 0, 1) := by decide +kernel
theorem dX7_mend_43 : decode cX7_mend 43 = .ok (.getfield 37, 3) := by decide +kernel
theorem dX7_mend_46 : decode cX7_mend 46 = .ok (.iload_n 1, 1) := by decide +kernel
theorem dX7_mend_47 : decode cX7_mend 47 = .ok (.iload_n 2, 1) := by decide +kernel
theorem dX7_mend_48 : decode cX7_mend 48 = .ok (.iload 4, 2) := by decide +kernel
theorem dX7_mend_50 : decode cX7_mend 50 = .ok (.iload_n 3, 1) := by decide +kernel
theorem dX7_mend_51 : decode cX7_mend 51 = .ok (.invokevirtual 110, 3) := by decide +kernel
theorem dX7_mend_54 : decode cX7_mend 54 = .ok (.iload 4, 2) := by decide +kernel
theorem dX7_mend_56 : decode cX7_mend 56 = .ok (.ireturn, 1) := by decide +kernel
set_option maxRecDepth 20000 in
theorem gd_wsX7_ofTheWhole : wsX7_ofTheWhole.all goodWord = true := by decide +kernel
set_option maxRecDepth 100000 in
theorem ggX7_of_X7_ofTheWhole : GoodIn wsX7_of wsX7_ofTheWhole := goodIn_r _ [7, 8, 9, 10, 1, 11, 12, 13, 14, 15, 16, 17, 18, 19, 6, 20, 21, 22, 23, 65, 66, 67, 68, 69, 70, 71, 72, 73, 74, 75, 83, 84, 85, 86, 87, 88, 89, 90, 91, 92, 93, 76, 77, 78, 79, 80, 81, 82] rfl gd_wsX7_ofTheWhole
set_option maxRecDepth 100000 in
theorem gX7_of_X7_ofTheWhole : GoodIn wsX7_of (wsV RX7 114 RX7 yX7_ofTheWhole wsX7_ofTheWhole) := goodIn_app (goodIn_r _ [3, 4, 5, 6] rfl (by decide +kernel)) ggX7_of_X7_ofTheWhole
set_option maxRecDepth 20000 in
theorem gd_wsX1_ofMessage : wsX1_ofMessage.all goodWord = true := by decide +kernel
set_option maxRecDepth 100000 in
theorem ggX7_of_X1_ofMessage : GoodIn wsX7_of wsX1_ofMessage := goodIn_r _ [28, 29, 30, 31, 32, 76, 77, 78, 79, 80, 81, 82] rfl gd_wsX1_ofMessage
set_option maxRecDepth 100000 in
theorem gX7_of_X1_ofMessage : GoodIn wsX7_of (wsV RX7 119 RX1 yX1_ofMessage wsX1_ofMessage) := goodIn_app (goodIn_r _ [24, 25, 26, 27] rfl (by decide +kernel)) ggX7_of_X1_ofMessage
set_option maxRecDepth 20000 in
theorem gd_wsX7_isWorldNumber : wsX7_isWorldNumber.all goodWord = true := by decide +kernel
set_option maxRecDepth 100000 in
theorem ggX7_of_X7_isWorldNumber : GoodIn wsX7_of wsX7_isWorldNumber := goodIn_r _ [36, 8, 37, 65, 66, 67, 68, 69, 70, 71, 72, 73, 74, 75, 83, 84, 85, 86, 87, 88, 89, 90, 91, 92, 93] rfl gd_wsX7_isWorldNumber
set_option maxRecDepth 100000 in
theorem gX7_of_X7_isWorldNumber : GoodIn wsX7_of (wsV RX7 122 RX7 yX7_isWorldNumber wsX7_isWorldNumber) := goodIn_app (goodIn_r _ [33, 34, 35, 6] rfl (by decide +kernel)) ggX7_of_X7_isWorldNumber
set_option maxRecDepth 20000 in
theorem gd_wsX7_ofWorld : wsX7_ofWorld.all goodWord = true := by decide +kernel
set_option maxRecDepth 100000 in
theorem ggX7_of_X7_ofWorld : GoodIn wsX7_of wsX7_ofWorld := goodIn_r _ [41, 8, 1, 11, 42, 43, 44, 45, 6, 46, 47, 48, 49, 9, 10, 50, 51, 52, 15, 53, 54, 55, 56, 57, 58, 18, 59, 60, 61, 62, 63, 64, 65, 66, 67, 68, 69, 70, 71, 72, 73, 74, 75, 76, 77, 78, 79, 80, 81, 82, 83, 84, 85, 86, 87, 88, 89, 90, 91, 92, 93] rfl gd_wsX7_ofWorld
set_option maxRecDepth 100000 in
theorem gX7_of_X7_ofWorld : GoodIn wsX7_of (wsV RX7 125 RX7 yX7_ofWorld wsX7_ofWorld) := goodIn_app (goodIn_r _ [38, 39, 40, 6] rfl (by decide +kernel)) ggX7_of_X7_ofWorld
theorem dX7_of_0 : decode cX7_of 0 = .ok (.iload_n 2, 1) := by decide +kernel
theorem dX7_of_1 : decode cX7_of 1 = .ok (.bipush 20, 2) := by decide +kernel
theorem dX7_of_3 : decode cX7_of 3 = .ok (.if_icmp .lt 17, 3) := by decide +kernel
theorem dX7_of_6 : decode cX7_of 6 = .ok (.iload_n 1, 1) := by decide +kernel
theorem dX7_of_7 : decode cX7_of 7 = .ok (.ifCond .ne 11, 3) := by decide +kernel
theorem dX7_of_10 : decode cX7_of 10 = .ok (.aload_n 0, 1) := by decide +kernel
theorem dX7_of_11 : decode cX7_of 11 = .ok (.iload_n 2, 1) := by decide +kernel
theorem dX7_of_12 : decode cX7_of 12 = .ok (.invokevirtual 114, 3) := by decide +kernel
theorem dX7_of_15 : decode cX7_of 15 = .ok (.goto 4, 3) := by decide +kernel
theorem dX7_of_18 : decode cX7_of 18 = .ok (.iconst (-1), 1) := by decide +kernel
theorem dX7_of_19 : decode cX7_of 19 = .ok (.ireturn, 1) := by decide +kernel
theorem dX7_of_20 : decode cX7_of 20 = .ok (.iload_n 2, 1) := by decide +kernel
theorem dX7_of_21 : decode cX7_of 21 = .ok (.bipush 10, 2) := by decide +kernel
theorem dX7_of_23 : decode cX7_of 23 = .ok (.if_icmp .lt 35, 3) := by decide +kernel
theorem dX7_of_26 : decode cX7_of 26 = .ok (.iload_n 1, 1) := by decide +kernel
theorem dX7_of_27 : decode cX7_of 27 = .ok (.ifCond .lt 29, 3) := by decide +kernel
theorem dX7_of_30 : decode cX7_of 30 = .ok (.iload_n 1, 1) := by decide +kernel
theorem dX7_of_31 : decode cX7_of 31 = .ok (.aload_n 0, 1) := by decide +kernel
theorem dX7_of_32 : decode cX7_of 32 = .ok (.getfield 44, 3) := by decide +kernel
theorem dX7_of_35 : decode cX7_of 35 = .ok (.getfield 118, 3) := by decide +kernel
theorem dX7_of_38 : decode cX7_of 38 = .ok (.if_icmp .ge 18, 3) := by decide +kernel
theorem dX7_of_41 : decode cX7_of 41 = .ok (.aload_n 0, 1) := by decide +kernel
theorem dX7_of_42 : decode cX7_of 42 = .ok (.getfield 44, 3) := by decide +kernel
theorem dX7_of_45 : decode cX7_of 45 = .ok (.iload_n 1, 1) := by decide +kernel
theorem dX7_of_46 : decode cX7_of 46 = .ok (.iload_n 2, 1) := by decide +kernel
theorem dX7_of_47 : decode cX7_of 47 = .ok (.bipush 10, 2) := by decide +kernel
theorem dX7_of_49 : decode cX7_of 49 = .ok (.isub, 1) := by decide +kernel
theorem dX7_of_50 : decode cX7_of 50 = .ok (.invokevirtual 119, 3) := by decide +kernel
theorem dX7_of_53 : decode cX7_of 53 = .ok (.goto 4, 3) := by decide +kernel
theorem dX7_of_56 : decode cX7_of 56 = .ok (.iconst (-1), 1) := by decide +kernel
theorem dX7_of_57 : decode cX7_of 57 = .ok (.ireturn, 1) := by decide +kernel
theorem dX7_of_58 : decode cX7_of 58 = .ok (.aload_n 0, 1) := by decide +kernel
theorem dX7_of_59 : decode cX7_of 59 = .ok (.iload_n 1, 1) := by decide +kernel
theorem dX7_of_60 : decode cX7_of 60 = .ok (.invokevirtual 122, 3) := by decide +kernel
theorem dX7_of_63 : decode cX7_of 63 = .ok (.ifCond .eq 12, 3) := by decide +kernel
theorem dX7_of_66 : decode cX7_of 66 = .ok (.aload_n 0, 1) := by decide +kernel
theorem dX7_of_67 : decode cX7_of 67 = .ok (.iload_n 1, 1) := by decide +kernel
theorem dX7_of_68 : decode cX7_of 68 = .ok (.iload_n 2, 1) := by decide +kernel
theorem dX7_of_69 : decode cX7_of 69 = .ok (.invokevirtual 125, 3) := by decide +kernel
theorem dX7_of_72 : decode cX7_of 72 = .ok (.goto 4, 3) := by decide +kernel
theorem dX7_of_75 : decode cX7_of 75 = .ok (.iconst (-1), 1) := by decide +kernel
theorem dX7_of_76 : decode cX7_of 76 = .ok (.ireturn, 1) := by decide +kernel
set_option maxRecDepth 20000 in
theorem gd_wsX2_take : wsX2_take.all goodWord = true := by decide +kernel
set_option maxRecDepth 100000 in
theorem ggX7_feed_X2_take : GoodIn wsX7_feed wsX2_take := goodIn_r _ [6, 7, 8, 20, 21, 22, 23, 24, 25, 26, 27, 28, 29, 30, 31] rfl gd_wsX2_take
set_option maxRecDepth 100000 in
theorem gX7_feed_X2_take : GoodIn wsX7_feed (wsV RX7 128 RX2 yX2_take wsX2_take) := goodIn_app (goodIn_r _ [2, 3, 4, 5] rfl (by decide +kernel)) ggX7_feed_X2_take
theorem dX7_feed_0 : decode cX7_feed 0 = .ok (.iload_n 1, 1) := by decide +kernel
theorem dX7_feed_1 : decode cX7_feed 1 = .ok (.ifCond .lt 10, 3) := by decide +kernel
theorem dX7_feed_4 : decode cX7_feed 4 = .ok (.iload_n 1, 1) := by decide +kernel
theorem dX7_feed_5 : decode cX7_feed 5 = .ok (.sipush 255, 3) := by decide +kernel
theorem dX7_feed_8 : decode cX7_feed 8 = .ok (.if_icmp .le 5, 3) := by decide +kernel
theorem dX7_feed_11 : decode cX7_feed 11 = .ok (.iconst (-1), 1) := by decide +kernel
theorem dX7_feed_12 : decode cX7_feed 12 = .ok (.ireturn, 1) := by decide +kernel
theorem dX7_feed_13 : decode cX7_feed 13 = .ok (.aload_n 0, 1) := by decide +kernel
theorem dX7_feed_14 : decode cX7_feed 14 = .ok (.getfield 10, 3) := by decide +kernel
theorem dX7_feed_17 : decode cX7_feed 17 = .ok (.iload_n 1, 1) := by decide +kernel
theorem dX7_feed_18 : decode cX7_feed 18 = .ok (.invokevirtual 128, 3) := by decide +kernel
theorem dX7_feed_21 : decode cX7_feed 21 = .ok (.ifCond .eq 13, 3) := by decide +kernel
theorem dX7_feed_24 : decode cX7_feed 24 = .ok (.aload_n 0, 1) := by decide +kernel
theorem dX7_feed_25 : decode cX7_feed 25 = .ok (.getfield 10, 3) := by decide +kernel
theorem dX7_feed_28 : decode cX7_feed 28 = .ok (.getfield 131, 3) := by decide +kernel
theorem dX7_feed_31 : decode cX7_feed 31 = .ok (.goto 5, 3) := by decide +kernel
theorem dX7_feed_34 : decode cX7_feed 34 = .ok (.bipush (-3), 2) := by decide +kernel
theorem dX7_feed_36 : decode cX7_feed 36 = .ok (.ireturn, 1) := by decide +kernel
set_option maxRecDepth 20000 in
theorem gd_wsX2_read : wsX2_read.all goodWord = true := by decide +kernel
set_option maxRecDepth 100000 in
theorem ggX7_law_X2_read : GoodIn wsX7_law wsX2_read := goodIn_r _ [7, 8, 9, 10, 11, 12, 13, 14, 6, 15, 16, 17, 18, 19, 20, 21, 22, 23, 24, 25, 26, 27, 28, 29, 30, 31, 32, 33, 34, 35, 36, 37, 38, 39, 40, 41, 42, 43, 44, 45, 46, 47, 48, 49, 50, 51, 52, 53, 54, 55, 79, 80, 81, 82, 83, 84, 85, 86, 87, 88, 89, 90] rfl gd_wsX2_read
set_option maxRecDepth 100000 in
theorem gX7_law_X2_read : GoodIn wsX7_law (wsV RX7 134 RX2 yX2_read wsX2_read) := goodIn_app (goodIn_r _ [3, 4, 5, 6] rfl (by decide +kernel)) ggX7_law_X2_read
set_option maxRecDepth 20000 in
theorem gd_wsX5_forgetAll : wsX5_forgetAll.all goodWord = true := by decide +kernel
set_option maxRecDepth 100000 in
theorem ggX7_law_X5_forgetAll : GoodIn wsX7_law wsX5_forgetAll := goodIn_r _ [60, 61, 62, 63, 64, 65, 66, 67, 91, 92, 93, 94, 95, 96, 97, 98, 99, 100, 101] rfl gd_wsX5_forgetAll
set_option maxRecDepth 100000 in
theorem gX7_law_X5_forgetAll : GoodIn wsX7_law (wsV RX7 138 RX5 yX5_forgetAll wsX5_forgetAll) := goodIn_app (goodIn_r _ [56, 57, 58, 59] rfl (by decide +kernel)) ggX7_law_X5_forgetAll
theorem dX7_law_0 : decode cX7_law 0 = .ok (.aload_n 0, 1) := by decide +kernel
theorem dX7_law_1 : decode cX7_law 1 = .ok (.getfield 10, 3) := by decide +kernel
theorem dX7_law_4 : decode cX7_law 4 = .ok (.invokevirtual 134, 3) := by decide +kernel
theorem dX7_law_7 : decode cX7_law 7 = .ok (.istore_n 1, 1) := by decide +kernel
theorem dX7_law_8 : decode cX7_law 8 = .ok (.iload_n 1, 1) := by decide +kernel
theorem dX7_law_9 : decode cX7_law 9 = .ok (.ifCond .lt 8, 3) := by decide +kernel
theorem dX7_law_12 : decode cX7_law 12 = .ok (.bipush (-100), 2) := by decide +kernel
theorem dX7_law_14 : decode cX7_law 14 = .ok (.iload_n 1, 1) := by decide +kernel
theorem dX7_law_15 : decode cX7_law 15 = .ok (.isub, 1) := by decide +kernel
theorem dX7_law_16 : decode cX7_law 16 = .ok (.ireturn, 1) := by decide +kernel
theorem dX7_law_17 : decode cX7_law 17 = .ok (.aload_n 0, 1) := by decide +kernel
theorem dX7_law_18 : decode cX7_law 18 = .ok (.getfield 21, 3) := by decide +kernel
theorem dX7_law_21 : decode cX7_law 21 = .ok (.invokevirtual 138, 3) := by decide +kernel
theorem dX7_law_24 : decode cX7_law 24 = .ok (.iconst 1, 1) := by decide +kernel
theorem dX7_law_25 : decode cX7_law 25 = .ok (.ireturn, 1) := by decide +kernel
set_option maxRecDepth 100000 in
theorem ggX7_place_X7_isWorldNumber : GoodIn wsX7_place wsX7_isWorldNumber := goodIn_r _ [6, 1, 7, 29, 30, 31, 32, 33, 34, 35, 36, 37, 38, 39, 40, 41, 42, 43, 44, 45, 46, 47, 48, 49, 50] rfl gd_wsX7_isWorldNumber
set_option maxRecDepth 100000 in
theorem gX7_place_X7_isWorldNumber : GoodIn wsX7_place (wsV RX7 122 RX7 yX7_isWorldNumber wsX7_isWorldNumber) := goodIn_app (goodIn_r _ [2, 3, 4, 5] rfl (by decide +kernel)) ggX7_place_X7_isWorldNumber
set_option maxRecDepth 20000 in
theorem gd_wsX7_isStep : wsX7_isStep.all goodWord = true := by decide +kernel
set_option maxRecDepth 100000 in
theorem ggX7_place_X7_isStep : GoodIn wsX7_place wsX7_isStep := goodIn_r _ [10, 11] rfl gd_wsX7_isStep
set_option maxRecDepth 100000 in
theorem gX7_place_X7_isStep : GoodIn wsX7_place (va_wsS RX7 141 yX7_isStep wsX7_isStep) := goodIn_app (goodIn_r _ [8, 9, 5] rfl (by decide +kernel)) ggX7_place_X7_isStep
set_option maxRecDepth 100000 in
theorem ggX7_place_X5_placeAt : GoodIn wsX7_place wsX5_placeAt := goodIn_r _ [16, 17, 18, 19, 15, 20, 21, 22, 23, 5, 24, 25, 26, 27, 28, 40, 41, 42, 43, 44, 45, 46, 47, 48, 49, 50] rfl gd_wsX5_placeAt
set_option maxRecDepth 100000 in
theorem gX7_place_X5_placeAt : GoodIn wsX7_place (wsV RX7 144 RX5 yX5_placeAt wsX5_placeAt) := goodIn_app (goodIn_r _ [12, 13, 14, 15] rfl (by decide +kernel)) ggX7_place_X5_placeAt
theorem dX7_place_0 : decode cX7_place 0 = .ok (.aload_n 0, 1) := by decide +kernel
theorem dX7_place_1 : decode cX7_place 1 = .ok (.iload_n 1, 1) := by decide +kernel
theorem dX7_place_2 : decode cX7_place 2 = .ok (.invokevirtual 122, 3) := by decide +kernel
theorem dX7_place_5 : decode cX7_place 5 = .ok (.ifCond .eq 22, 3) := by decide +kernel
theorem dX7_place_8 : decode cX7_place 8 = .ok (.iload_n 2, 1) := by decide +kernel
theorem dX7_place_9 : decode cX7_place 9 = .ok (.invokestatic 141, 3) := by decide +kernel
theorem dX7_place_12 : decode cX7_place 12 = .ok (.ifCond .eq 15, 3) := by decide +kernel
theorem dX7_place_15 : decode cX7_place 15 = .ok (.aload_n 0, 1) := by decide +kernel
theorem dX7_place_16 : decode cX7_place 16 = .ok (.getfield 21, 3) := by decide +kernel
theorem dX7_place_19 : decode cX7_place 19 = .ok (.iload_n 1, 1) := by decide +kernel
theorem dX7_place_20 : decode cX7_place 20 = .ok (.iload_n 2, 1) := by decide +kernel
theorem dX7_place_21 : decode cX7_place 21 = .ok (.invokevirtual 144, 3) := by decide +kernel
theorem dX7_place_24 : decode cX7_place 24 = .ok (.goto 4, 3) := by decide +kernel
theorem dX7_place_27 : decode cX7_place 27 = .ok (.iconst (-1), 1) := by decide +kernel
theorem dX7_place_28 : decode cX7_place 28 = .ok (.ireturn, 1) := by decide +kernel
set_option maxRecDepth 20000 in
theorem gd_wsX7_isPair : wsX7_isPair.all goodWord = true := by decide +kernel
set_option maxRecDepth 100000 in
theorem ggX7_sees_X7_isPair : GoodIn wsX7_sees wsX7_isPair := goodIn_r _ [6, 1, 7, 72, 73, 74, 75, 76, 77, 78, 79, 80, 81, 82, 83, 84, 85, 86, 87, 88, 89, 90, 91, 92, 93] rfl gd_wsX7_isPair
set_option maxRecDepth 100000 in
theorem gX7_sees_X7_isPair : GoodIn wsX7_sees (wsV RX7 147 RX7 yX7_isPair wsX7_isPair) := goodIn_app (goodIn_r _ [2, 3, 4, 5] rfl (by decide +kernel)) ggX7_sees_X7_isPair
set_option maxRecDepth 100000 in
theorem ggX7_sees_X7_isStep : GoodIn wsX7_sees wsX7_isStep := goodIn_r _ [10, 11] rfl gd_wsX7_isStep
set_option maxRecDepth 100000 in
theorem gX7_sees_X7_isStep : GoodIn wsX7_sees (va_wsS RX7 141 yX7_isStep wsX7_isStep) := goodIn_app (goodIn_r _ [8, 9, 5] rfl (by decide +kernel)) ggX7_sees_X7_isStep
set_option maxRecDepth 20000 in
theorem gd_wsX5_meet : wsX5_meet.all goodWord = true := by decide +kernel
set_option maxRecDepth 100000 in
theorem ggX7_sees_X5_meet : GoodIn wsX7_sees wsX5_meet := goodIn_r _ [16, 17, 18, 19, 20, 21, 22, 23, 24, 25, 26, 15, 27, 28, 29, 30, 5, 31, 32, 33, 34, 35, 36, 37, 38, 39, 40, 41, 42, 43, 44, 45, 46, 47, 48, 49, 50, 51, 52, 53, 54, 55, 56, 57, 58, 59, 60, 61, 62, 63, 64, 65, 66, 67, 68, 69, 70, 71, 83, 84, 85, 86, 87, 88, 89, 90, 91, 92, 93, 94, 95, 96, 97, 98, 99, 100, 101, 102, 103, 104, 105] rfl gd_wsX5_meet
set_option maxRecDepth 100000 in
theorem gX7_sees_X5_meet : GoodIn wsX7_sees (wsV RX7 150 RX5 yX5_meet wsX5_meet) := goodIn_app (goodIn_r _ [12, 13, 14, 15] rfl (by decide +kernel)) ggX7_sees_X5_meet
theorem dX7_sees_0 : decode cX7_sees 0 = .ok (.aload_n 0, 1) := by decide +kernel
theorem dX7_sees_1 : decode cX7_sees 1 = .ok (.iload_n 1, 1) := by decide +kernel
theorem dX7_sees_2 : decode cX7_sees 2 = .ok (.invokevirtual 147, 3) := by decide +kernel
theorem dX7_sees_5 : decode cX7_sees 5 = .ok (.ifCond .eq 10, 3) := by decide +kernel
theorem dX7_sees_8 : decode cX7_sees 8 = .ok (.iload_n 2, 1) := by decide +kernel
theorem dX7_sees_9 : decode cX7_sees 9 = .ok (.invokestatic 141, 3) := by decide +kernel
theorem dX7_sees_12 : decode cX7_sees 12 = .ok (.ifCond .ne 5, 3) := by decide +kernel
theorem dX7_sees_15 : decode cX7_sees 15 = .ok (.iconst (-1), 1) := by decide +kernel
theorem dX7_sees_16 : decode cX7_sees 16 = .ok (.ireturn, 1) := by decide +kernel
theorem dX7_sees_17 : decode cX7_sees 17 = .ok (.aload_n 0, 1) := by decide +kernel
theorem dX7_sees_18 : decode cX7_sees 18 = .ok (.getfield 21, 3) := by decide +kernel
theorem dX7_sees_21 : decode cX7_sees 21 = .ok (.iload_n 1, 1) := by decide +kernel
theorem dX7_sees_22 : decode cX7_sees 22 = .ok (.bipush 10, 2) := by decide +kernel
theorem dX7_sees_24 : decode cX7_sees 24 = .ok (.idiv, 1) := by decide +kernel
theorem dX7_sees_25 : decode cX7_sees 25 = .ok (.iload_n 1, 1) := by decide +kernel
theorem dX7_sees_26 : decode cX7_sees 26 = .ok (.bipush 10, 2) := by decide +kernel
theorem dX7_sees_28 : decode cX7_sees 28 = .ok (.irem, 1) := by decide +kernel
theorem dX7_sees_29 : decode cX7_sees 29 = .ok (.iload_n 2, 1) := by decide +kernel
theorem dX7_sees_30 : decode cX7_sees 30 = .ok (.invokevirtual 150, 3) := by decide +kernel
theorem dX7_sees_33 : decode cX7_sees 33 = .ok (.ifCond .eq 7, 3) := by decide +kernel
theorem dX7_sees_36 : decode cX7_sees 36 = .ok (.iconst 1, 1) := by decide +kernel
theorem dX7_sees_37 : decode cX7_sees 37 = .ok (.goto 4, 3) := by decide +kernel
theorem dX7_sees_40 : decode cX7_sees 40 = .ok (.iconst 0, 1) := by decide +kernel
theorem dX7_sees_41 : decode cX7_sees 41 = .ok (.ireturn, 1) := by decide +kernel
set_option maxRecDepth 100000 in
theorem ggX7_sights_X7_isPair : GoodIn wsX7_sights wsX7_isPair := goodIn_r _ [6, 1, 7, 80, 81, 82, 83, 84, 85, 86, 87, 88, 89, 90, 91, 92, 93, 94, 95, 96, 97, 98, 99, 100, 101] rfl gd_wsX7_isPair
set_option maxRecDepth 100000 in
theorem gX7_sights_X7_isPair : GoodIn wsX7_sights (wsV RX7 147 RX7 yX7_isPair wsX7_isPair) := goodIn_app (goodIn_r _ [2, 3, 4, 5] rfl (by decide +kernel)) ggX7_sights_X7_isPair
set_option maxRecDepth 100000 in
theorem ggX7_sights_X5_roundOfTwo : GoodIn wsX7_sights wsX5_roundOfTwo := goodIn_r _ [12, 13, 14, 5, 15, 16, 17, 18, 91, 92, 93, 94, 95, 96, 97, 98, 99, 100, 101] rfl gd_wsX5_roundOfTwo
set_option maxRecDepth 100000 in
theorem gX7_sights_X5_roundOfTwo : GoodIn wsX7_sights (wsV RX7 153 RX5 yX5_roundOfTwo wsX5_roundOfTwo) := goodIn_app (goodIn_r _ [8, 9, 10, 11] rfl (by decide +kernel)) ggX7_sights_X5_roundOfTwo
set_option maxRecDepth 100000 in
theorem ggX7_sights_X5_meet : GoodIn wsX7_sights wsX5_meet := goodIn_r _ [22, 23, 24, 25, 26, 27, 28, 29, 30, 31, 32, 11, 33, 34, 13, 35, 5, 36, 37, 38, 39, 40, 41, 42, 43, 44, 45, 46, 47, 48, 49, 50, 51, 52, 53, 54, 55, 56, 57, 58, 59, 60, 61, 62, 63, 64, 65, 66, 67, 68, 69, 70, 71, 72, 73, 74, 75, 76, 91, 92, 93, 94, 95, 96, 97, 98, 99, 100, 101, 102, 103, 104, 105, 106, 107, 108, 109, 110, 111, 112, 113] rfl gd_wsX5_meet
set_option maxRecDepth 100000 in
theorem gX7_sights_X5_meet : GoodIn wsX7_sights (wsV RX7 150 RX5 yX5_meet wsX5_meet) := goodIn_app (goodIn_r _ [19, 20, 21, 11] rfl (by decide +kernel)) ggX7_sights_X5_meet
set_option maxRecDepth 20000 in
theorem gd_wsX7_lowest : wsX7_lowest.all goodWord = true := by decide +kernel
set_option maxRecDepth 100000 in
theorem ggX7_sights_X7_lowest : GoodIn wsX7_sights wsX7_lowest := goodIn_r _ [79, 16, 17, 5, 18] rfl gd_wsX7_lowest
set_option maxRecDepth 100000 in
theorem gX7_sights_X7_lowest : GoodIn wsX7_sights (va_wsS RX7 156 yX7_lowest wsX7_lowest) := goodIn_app (goodIn_r _ [77, 78, 5] rfl (by decide +kernel)) ggX7_sights_X7_lowest
theorem dX7_sights_0 : decode cX7_sights 0 = .ok (.aload_n 0, 1) := by decide +kernel
theorem dX7_sights_1 : decode cX7_sights 1 = .ok (.iload_n 1, 1) := by decide +kernel
theorem dX7_sights_2 : decode cX7_sights 2 = .ok (.invokevirtual 147, 3) := by decide +kernel
theorem dX7_sights_5 : decode cX7_sights 5 = .ok (.ifCond .eq 12, 3) := by decide +kernel
theorem dX7_sights_8 : decode cX7_sights 8 = .ok (.iload_n 2, 1) := by decide +kernel
theorem dX7_sights_9 : decode cX7_sights 9 = .ok (.ifCond .lt 8, 3) := by decide +kernel
theorem dX7_sights_12 : decode cX7_sights 12 = .ok (.iload_n 2, 1) := by decide +kernel
theorem dX7_sights_13 : decode cX7_sights 13 = .ok (.iconst 1, 1) := by decide +kernel
theorem dX7_sights_14 : decode cX7_sights 14 = .ok (.if_icmp .le 5, 3) := by decide +kernel
theorem dX7_sights_17 : decode cX7_sights 17 = .ok (.iconst (-1), 1) := by decide +kernel
theorem dX7_sights_18 : decode cX7_sights 18 = .ok (.ireturn, 1) := by decide +kernel
theorem dX7_sights_19 : decode cX7_sights 19 = .ok (.iload_n 1, 1) := by decide +kernel
theorem dX7_sights_20 : decode cX7_sights 20 = .ok (.bipush 10, 2) := by decide +kernel
theorem dX7_sights_22 : decode cX7_sights 22 = .ok (.idiv, 1) := by decide +kernel
theorem dX7_sights_23 : decode cX7_sights 23 = .ok (.istore_n 3, 1) := by decide +kernel
theorem dX7_sights_24 : decode cX7_sights 24 = .ok (.iload_n 1, 1) := by decide +kernel
theorem dX7_sights_25 : decode cX7_sights 25 = .ok (.bipush 10, 2) := by decide +kernel
theorem dX7_sights_27 : decode cX7_sights 27 = .ok (.irem, 1) := by decide +kernel
theorem dX7_sights_28 : decode cX7_sights 28 = .ok (.istore 4, 2) := by decide +kernel
theorem dX7_sights_30 : decode cX7_sights 30 = .ok (.aload_n 0, 1) := by decide +kernel
theorem dX7_sights_31 : decode cX7_sights 31 = .ok (.getfield 21, 3) := by decide +kernel
theorem dX7_sights_34 : decode cX7_sights 34 = .ok (.iload_n 3, 1) := by decide +kernel
theorem dX7_sights_35 : decode cX7_sights 35 = .ok (.iload 4, 2) := by decide +kernel
theorem dX7_sights_37 : decode cX7_sights 37 = .ok (.invokevirtual 153, 3) := by decide +kernel
theorem dX7_sights_40 : decode cX7_sights 40 = .ok (.istore 5, 2) := by decide +kernel
theorem dX7_sights_42 : decode cX7_sights 42 = .ok (.iconst 0, 1) := by decide +kernel
theorem dX7_sights_43 : decode cX7_sights 43 = .ok (.istore 6, 2) := by decide +kernel
theorem dX7_sights_45 : decode cX7_sights 45 = .ok (.iconst 0, 1) := by decide +kernel
theorem dX7_sights_46 : decode cX7_sights 46 = .ok (.istore 7, 2) := by decide +kernel
theorem dX7_sights_48 : decode cX7_sights 48 = .ok (.iload 7, 2) := by decide +kernel
theorem dX7_sights_50 : decode cX7_sights 50 = .ok (.iload 5, 2) := by decide +kernel
theorem dX7_sights_52 : decode cX7_sights 52 = .ok (.if_icmp .ge 27, 3) := by decide +kernel
theorem dX7_sights_55 : decode cX7_sights 55 = .ok (.aload_n 0, 1) := by decide +kernel
theorem dX7_sights_56 : decode cX7_sights 56 = .ok (.getfield 21, 3) := by decide +kernel
theorem dX7_sights_59 : decode cX7_sights 59 = .ok (.iload_n 3, 1) := by decide +kernel
theorem dX7_sights_60 : decode cX7_sights 60 = .ok (.iload 4, 2) := by decide +kernel
theorem dX7_sights_62 : decode cX7_sights 62 = .ok (.iload 7, 2) := by decide +kernel
theorem dX7_sights_64 : decode cX7_sights 64 = .ok (.invokevirtual 150, 3) := by decide +kernel
theorem dX7_sights_67 : decode cX7_sights 67 = .ok (.ifCond .eq 6, 3) := by decide +kernel
theorem dX7_sights_70 : decode cX7_sights 70 = .ok (.iinc 6 1, 3) := by decide +kernel
theorem dX7_sights_73 : decode cX7_sights 73 = .ok (.iinc 7 1, 3) := by decide +kernel
theorem dX7_sights_76 : decode cX7_sights 76 = .ok (.goto (-28), 3) := by decide +kernel
theorem dX7_sights_79 : decode cX7_sights 79 = .ok (.iload 6, 2) := by decide +kernel
theorem dX7_sights_81 : decode cX7_sights 81 = .ok (.i2l, 1) := by decide +kernel
theorem dX7_sights_82 : decode cX7_sights 82 = .ok (.iload 5, 2) := by decide +kernel
theorem dX7_sights_84 : decode cX7_sights 84 = .ok (.i2l, 1) := by decide +kernel
theorem dX7_sights_85 : decode cX7_sights 85 = .ok (.iload_n 2, 1) := by decide +kernel
theorem dX7_sights_86 : decode cX7_sights 86 = .ok (.invokestatic 156, 3) := by decide +kernel
theorem dX7_sights_89 : decode cX7_sights 89 = .ok (.l2i, 1) := by decide +kernel
theorem dX7_sights_90 : decode cX7_sights 90 = .ok (.ireturn, 1) := by decide +kernel
set_option maxRecDepth 100000 in
theorem ggX7_blind_X7_isPair : GoodIn wsX7_blind wsX7_isPair := goodIn_r _ [10, 1, 11, 78, 79, 80, 81, 82, 83, 84, 85, 86, 87, 88, 89, 90, 91, 92, 93, 94, 95, 96, 97, 98, 99] rfl gd_wsX7_isPair
set_option maxRecDepth 100000 in
theorem gX7_blind_X7_isPair : GoodIn wsX7_blind (wsV RX7 147 RX7 yX7_isPair wsX7_isPair) := goodIn_app (goodIn_r _ [6, 7, 8, 9] rfl (by decide +kernel)) ggX7_blind_X7_isPair
set_option maxRecDepth 100000 in
theorem ggX7_blind_X5_roundOfTwo : GoodIn wsX7_blind wsX5_roundOfTwo := goodIn_r _ [16, 17, 18, 9, 19, 20, 21, 22, 89, 90, 91, 92, 93, 94, 95, 96, 97, 98, 99] rfl gd_wsX5_roundOfTwo
set_option maxRecDepth 100000 in
theorem gX7_blind_X5_roundOfTwo : GoodIn wsX7_blind (wsV RX7 153 RX5 yX5_roundOfTwo wsX5_roundOfTwo) := goodIn_app (goodIn_r _ [12, 13, 14, 15] rfl (by decide +kernel)) ggX7_blind_X5_roundOfTwo
set_option maxRecDepth 100000 in
theorem ggX7_blind_X5_meet : GoodIn wsX7_blind wsX5_meet := goodIn_r _ [26, 27, 28, 4, 29, 30, 3, 5, 31, 32, 33, 15, 34, 35, 17, 36, 9, 37, 38, 39, 40, 41, 42, 43, 44, 45, 46, 47, 48, 49, 50, 51, 52, 53, 54, 55, 56, 57, 58, 59, 60, 61, 62, 63, 64, 65, 66, 67, 68, 69, 70, 71, 72, 73, 74, 75, 76, 77, 89, 90, 91, 92, 93, 94, 95, 96, 97, 98, 99, 100, 101, 102, 103, 104, 105, 106, 107, 108, 109, 110, 111] rfl gd_wsX5_meet
set_option maxRecDepth 100000 in
theorem gX7_blind_X5_meet : GoodIn wsX7_blind (wsV RX7 150 RX5 yX5_meet wsX5_meet) := goodIn_app (goodIn_r _ [23, 24, 25, 15] rfl (by decide +kernel)) ggX7_blind_X5_meet
theorem dX7_blind_0 : decode cX7_blind 0 = .ok (.aload_n 0, 1) := by decide +kernel
theorem dX7_blind_1 : decode cX7_blind 1 = .ok (.iload_n 1, 1) := by decide +kernel
theorem dX7_blind_2 : decode cX7_blind 2 = .ok (.invokevirtual 147, 3) := by decide +kernel
theorem dX7_blind_5 : decode cX7_blind 5 = .ok (.ifCond .ne 5, 3) := by decide +kernel
theorem dX7_blind_8 : decode cX7_blind 8 = .ok (.iconst (-1), 1) := by decide +kernel
theorem dX7_blind_9 : decode cX7_blind 9 = .ok (.ireturn, 1) := by decide +kernel
theorem dX7_blind_10 : decode cX7_blind 10 = .ok (.iload_n 1, 1) := by decide +kernel
theorem dX7_blind_11 : decode cX7_blind 11 = .ok (.bipush 10, 2) := by decide +kernel
theorem dX7_blind_13 : decode cX7_blind 13 = .ok (.idiv, 1) := by decide +kernel
theorem dX7_blind_14 : decode cX7_blind 14 = .ok (.istore_n 2, 1) := by decide +kernel
theorem dX7_blind_15 : decode cX7_blind 15 = .ok (.iload_n 1, 1) := by decide +kernel
theorem dX7_blind_16 : decode cX7_blind 16 = .ok (.bipush 10, 2) := by decide +kernel
theorem dX7_blind_18 : decode cX7_blind 18 = .ok (.irem, 1) := by decide +kernel
theorem dX7_blind_19 : decode cX7_blind 19 = .ok (.istore_n 3, 1) := by decide +kernel
theorem dX7_blind_20 : decode cX7_blind 20 = .ok (.aload_n 0, 1) := by decide +kernel
theorem dX7_blind_21 : decode cX7_blind 21 = .ok (.getfield 21, 3) := by decide +kernel
theorem dX7_blind_24 : decode cX7_blind 24 = .ok (.iload_n 2, 1) := by decide +kernel
theorem dX7_blind_25 : decode cX7_blind 25 = .ok (.iload_n 3, 1) := by decide +kernel
theorem dX7_blind_26 : decode cX7_blind 26 = .ok (.invokevirtual 153, 3) := by decide +kernel
theorem dX7_blind_29 : decode cX7_blind 29 = .ok (.istore 4, 2) := by decide +kernel
theorem dX7_blind_31 : decode cX7_blind 31 = .ok (.iconst 0, 1) := by decide +kernel
theorem dX7_blind_32 : decode cX7_blind 32 = .ok (.istore 5, 2) := by decide +kernel
theorem dX7_blind_34 : decode cX7_blind 34 = .ok (.iconst 0, 1) := by decide +kernel
theorem dX7_blind_35 : decode cX7_blind 35 = .ok (.istore 6, 2) := by decide +kernel
theorem dX7_blind_37 : decode cX7_blind 37 = .ok (.iconst 0, 1) := by decide +kernel
theorem dX7_blind_38 : decode cX7_blind 38 = .ok (.istore 7, 2) := by decide +kernel
theorem dX7_blind_40 : decode cX7_blind 40 = .ok (.iload 7, 2) := by decide +kernel
theorem dX7_blind_42 : decode cX7_blind 42 = .ok (.iconst 2, 1) := by decide +kernel
theorem dX7_blind_43 : decode cX7_blind 43 = .ok (.iload 4, 2) := by decide +kernel
theorem dX7_blind_45 : decode cX7_blind 45 = .ok (.imul, 1) := by decide +kernel
theorem dX7_blind_46 : decode cX7_blind 46 = .ok (.if_icmp .ge 42, 3) := by decide +kernel
theorem dX7_blind_49 : decode cX7_blind 49 = .ok (.aload_n 0, 1) := by decide +kernel
theorem dX7_blind_50 : decode cX7_blind 50 = .ok (.getfield 21, 3) := by decide +kernel
theorem dX7_blind_53 : decode cX7_blind 53 = .ok (.iload_n 2, 1) := by decide +kernel
theorem dX7_blind_54 : decode cX7_blind 54 = .ok (.iload_n 3, 1) := by decide +kernel
theorem dX7_blind_55 : decode cX7_blind 55 = .ok (.iload 7, 2) := by decide +kernel
theorem dX7_blind_57 : decode cX7_blind 57 = .ok (.invokevirtual 150, 3) := by decide +kernel
theorem dX7_blind_60 : decode cX7_blind 60 = .ok (.ifCond .eq 7, 3) := by decide +kernel
theorem dX7_blind_63 : decode cX7_blind 63 = .ok (.iconst 0, 1) := by decide +kernel
theorem dX7_blind_64 : decode cX7_blind 64 = .ok (.goto 7, 3) := by decide +kernel
theorem dX7_blind_67 : decode cX7_blind 67 = .ok (.iload 5, 2) := by decide +kernel
theorem dX7_blind_69 : decode cX7_blind 69 = .ok (.iconst 1, 1) := by decide +kernel
theorem dX7_blind_70 : decode cX7_blind 70 = .ok (.iadd, 1) := by decide +kernel
theorem dX7_blind_71 : decode cX7_blind 71 = .ok (.istore 5, 2) := by decide +kernel
theorem dX7_blind_73 : decode cX7_blind 73 = .ok (.iload 6, 2) := by decide +kernel
theorem dX7_blind_75 : decode cX7_blind 75 = .ok (.iload 5, 2) := by decide +kernel
theorem dX7_blind_77 : decode cX7_blind 77 = .ok (.invokestatic 160, 3) := by decide +kernel
theorem dX7_blind_80 : decode cX7_blind 80 = .ok (.istore 6, 2) := by decide +kernel
theorem dX7_blind_82 : decode cX7_blind 82 = .ok (.iinc 7 1, 3) := by decide +kernel
theorem dX7_blind_85 : decode cX7_blind 85 = .ok (.goto (-45), 3) := by decide +kernel
theorem dX7_blind_88 : decode cX7_blind 88 = .ok (.iload 6, 2) := by decide +kernel
theorem dX7_blind_90 : decode cX7_blind 90 = .ok (.iload 4, 2) := by decide +kernel
theorem dX7_blind_92 : decode cX7_blind 92 = .ok (.if_icmp .lt 8, 3) := by decide +kernel
theorem dX7_blind_95 : decode cX7_blind 95 = .ok (.bipush (-2), 2) := by decide +kernel
theorem dX7_blind_97 : decode cX7_blind 97 = .ok (.goto 5, 3) := by decide +kernel
theorem dX7_blind_100 : decode cX7_blind 100 = .ok (.iload 6, 2) := by decide +kernel
theorem dX7_blind_102 : decode cX7_blind 102 = .ok (.ireturn, 1) := by decide +kernel
set_option maxRecDepth 100000 in
theorem ggX7_next_X7_isPair : GoodIn wsX7_next wsX7_isPair := goodIn_r _ [6, 1, 7, 103, 104, 105, 106, 107, 108, 109, 110, 111, 112, 113, 114, 115, 116, 117, 118, 119, 120, 121, 122, 123, 124] rfl gd_wsX7_isPair
set_option maxRecDepth 100000 in
theorem gX7_next_X7_isPair : GoodIn wsX7_next (wsV RX7 147 RX7 yX7_isPair wsX7_isPair) := goodIn_app (goodIn_r _ [2, 3, 4, 5] rfl (by decide +kernel)) ggX7_next_X7_isPair
set_option maxRecDepth 100000 in
theorem ggX7_next_X7_isStep : GoodIn wsX7_next wsX7_isStep := goodIn_r _ [10, 11] rfl gd_wsX7_isStep
set_option maxRecDepth 100000 in
theorem gX7_next_X7_isStep : GoodIn wsX7_next (va_wsS RX7 141 yX7_isStep wsX7_isStep) := goodIn_app (goodIn_r _ [8, 9, 5] rfl (by decide +kernel)) ggX7_next_X7_isStep
set_option maxRecDepth 20000 in
theorem gd_wsX7_nextOfAll : wsX7_nextOfAll.all goodWord = true := by decide +kernel
set_option maxRecDepth 100000 in
theorem ggX7_next_X7_nextOfAll : GoodIn wsX7_next wsX7_nextOfAll := goodIn_r _ [15, 1, 16, 17, 18, 19, 20, 21, 22, 23, 5, 24, 25, 26, 27, 28, 29, 30, 31, 32, 33, 34, 35, 36, 37, 38, 39, 40, 41, 42, 43, 44, 45, 46, 47, 48, 49, 50, 51, 52, 53, 54, 55, 56, 57, 58, 59, 60, 61, 62, 63, 64, 65, 66, 67, 68, 69, 70, 71, 72, 73, 74, 75, 76, 77, 78, 79, 80, 81, 82, 83, 84, 85, 86, 87, 88, 89, 90, 91, 92, 93, 103, 104, 105, 106, 107, 108, 109, 110, 111, 112, 113, 114, 115, 116, 117, 118, 119, 120, 121, 122, 123, 124, 125, 126, 127, 128, 129, 130, 131, 132, 133, 134, 135, 136] rfl gd_wsX7_nextOfAll
set_option maxRecDepth 100000 in
theorem gX7_next_X7_nextOfAll : GoodIn wsX7_next (wsV RX7 165 RX7 yX7_nextOfAll wsX7_nextOfAll) := goodIn_app (goodIn_r _ [12, 13, 14, 5] rfl (by decide +kernel)) ggX7_next_X7_nextOfAll
set_option maxRecDepth 100000 in
theorem ggX7_next_X5_roundOfTwo : GoodIn wsX7_next wsX5_roundOfTwo := goodIn_r _ [97, 22, 23, 5, 24, 25, 26, 27, 114, 115, 116, 117, 118, 119, 120, 121, 122, 123, 124] rfl gd_wsX5_roundOfTwo
set_option maxRecDepth 100000 in
theorem gX7_next_X5_roundOfTwo : GoodIn wsX7_next (wsV RX7 153 RX5 yX5_roundOfTwo wsX5_roundOfTwo) := goodIn_app (goodIn_r _ [94, 95, 96, 19] rfl (by decide +kernel)) ggX7_next_X5_roundOfTwo
set_option maxRecDepth 100000 in
theorem ggX7_next_X5_meet : GoodIn wsX7_next wsX5_meet := goodIn_r _ [101, 59, 60, 57, 61, 102, 85, 86, 33, 34, 35, 19, 36, 37, 22, 38, 5, 39, 44, 45, 46, 47, 48, 49, 50, 51, 52, 53, 54, 55, 56, 58, 62, 63, 64, 65, 66, 67, 68, 69, 70, 71, 72, 73, 74, 75, 76, 77, 78, 79, 80, 81, 82, 83, 84, 87, 88, 89, 114, 115, 116, 117, 118, 119, 120, 121, 122, 123, 124, 125, 126, 127, 128, 129, 130, 131, 132, 133, 134, 135, 136] rfl gd_wsX5_meet
set_option maxRecDepth 100000 in
theorem gX7_next_X5_meet : GoodIn wsX7_next (wsV RX7 150 RX5 yX5_meet wsX5_meet) := goodIn_app (goodIn_r _ [98, 99, 100, 19] rfl (by decide +kernel)) ggX7_next_X5_meet
theorem dX7_next_0 : decode cX7_next 0 = .ok (.iload_n 1, 1) := by decide +kernel
theorem dX7_next_1 : decode cX7_next 1 = .ok (.iconst (-1), 1) := by decide +kernel
theorem dX7_next_2 : decode cX7_next 2 = .ok (.if_icmp .eq 11, 3) := by decide +kernel
theorem dX7_next_5 : decode cX7_next 5 = .ok (.aload_n 0, 1) := by decide +kernel
theorem dX7_next_6 : decode cX7_next 6 = .ok (.iload_n 1, 1) := by decide +kernel
theorem dX7_next_7 : decode cX7_next 7 = .ok (.invokevirtual 147, 3) := by decide +kernel
theorem dX7_next_10 : decode cX7_next 10 = .ok (.ifCond .eq 10, 3) := by decide +kernel
theorem dX7_next_13 : decode cX7_next 13 = .ok (.iload_n 2, 1) := by decide +kernel
theorem dX7_next_14 : decode cX7_next 14 = .ok (.invokestatic 141, 3) := by decide +kernel
theorem dX7_next_17 : decode cX7_next 17 = .ok (.ifCond .ne 5, 3) := by decide +kernel
theorem dX7_next_20 : decode cX7_next 20 = .ok (.iconst (-1), 1) := by decide +kernel
theorem dX7_next_21 : decode cX7_next 21 = .ok (.ireturn, 1) := by decide +kernel
theorem dX7_next_22 : decode cX7_next 22 = .ok (.iload_n 1, 1) := by decide +kernel
theorem dX7_next_23 : decode cX7_next 23 = .ok (.iconst (-1), 1) := by decide +kernel
theorem dX7_next_24 : decode cX7_next 24 = .ok (.if_icmp .ne 9, 3) := by decide +kernel
theorem dX7_next_27 : decode cX7_next 27 = .ok (.aload_n 0, 1) := by decide +kernel
theorem dX7_next_28 : decode cX7_next 28 = .ok (.iload_n 2, 1) := by decide +kernel
theorem dX7_next_29 : decode cX7_next 29 = .ok (.invokevirtual 165, 3) := by decide +kernel
theorem dX7_next_32 : decode cX7_next 32 = .ok (.ireturn, 1) := by decide +kernel
theorem dX7_next_33 : decode cX7_next 33 = .ok (.iload_n 1, 1) := by decide +kernel
theorem dX7_next_34 : decode cX7_next 34 = .ok (.bipush 10, 2) := by decide +kernel
theorem dX7_next_36 : decode cX7_next 36 = .ok (.idiv, 1) := by decide +kernel
theorem dX7_next_37 : decode cX7_next 37 = .ok (.istore_n 3, 1) := by decide +kernel
theorem dX7_next_38 : decode cX7_next 38 = .ok (.iload_n 1, 1) := by decide +kernel
theorem dX7_next_39 : decode cX7_next 39 = .ok (.bipush 10, 2) := by decide +kernel
theorem dX7_next_41 : decode cX7_next 41 = .ok (.irem, 1) := by decide +kernel
theorem dX7_next_42 : decode cX7_next 42 = .ok (.istore 4, 2) := by decide +kernel
theorem dX7_next_44 : decode cX7_next 44 = .ok (.aload_n 0, 1) := by decide +kernel
theorem dX7_next_45 : decode cX7_next 45 = .ok (.getfield 21, 3) := by decide +kernel
theorem dX7_next_48 : decode cX7_next 48 = .ok (.iload_n 3, 1) := by decide +kernel
theorem dX7_next_49 : decode cX7_next 49 = .ok (.iload 4, 2) := by decide +kernel
theorem dX7_next_51 : decode cX7_next 51 = .ok (.invokevirtual 153, 3) := by decide +kernel
theorem dX7_next_54 : decode cX7_next 54 = .ok (.istore 5, 2) := by decide +kernel
theorem dX7_next_56 : decode cX7_next 56 = .ok (.iconst 0, 1) := by decide +kernel
theorem dX7_next_57 : decode cX7_next 57 = .ok (.istore 6, 2) := by decide +kernel
theorem dX7_next_59 : decode cX7_next 59 = .ok (.iload 6, 2) := by decide +kernel
theorem dX7_next_61 : decode cX7_next 61 = .ok (.iload 5, 2) := by decide +kernel
theorem dX7_next_63 : decode cX7_next 63 = .ok (.if_icmp .ge 31, 3) := by decide +kernel
theorem dX7_next_66 : decode cX7_next 66 = .ok (.aload_n 0, 1) := by decide +kernel
theorem dX7_next_67 : decode cX7_next 67 = .ok (.getfield 21, 3) := by decide +kernel
theorem dX7_next_70 : decode cX7_next 70 = .ok (.iload_n 3, 1) := by decide +kernel
theorem dX7_next_71 : decode cX7_next 71 = .ok (.iload 4, 2) := by decide +kernel
theorem dX7_next_73 : decode cX7_next 73 = .ok (.iload_n 2, 1) := by decide +kernel
theorem dX7_next_74 : decode cX7_next 74 = .ok (.iload 6, 2) := by decide +kernel
theorem dX7_next_76 : decode cX7_next 76 = .ok (.iadd, 1) := by decide +kernel
theorem dX7_next_77 : decode cX7_next 77 = .ok (.invokevirtual 150, 3) := by decide +kernel
theorem dX7_next_80 : decode cX7_next 80 = .ok (.ifCond .eq 8, 3) := by decide +kernel
theorem dX7_next_83 : decode cX7_next 83 = .ok (.iload_n 2, 1) := by decide +kernel
theorem dX7_next_84 : decode cX7_next 84 = .ok (.iload 6, 2) := by decide +kernel
theorem dX7_next_86 : decode cX7_next 86 = .ok (.iadd, 1) := by decide +kernel
theorem dX7_next_87 : decode cX7_next 87 = .ok (.ireturn, 1) := by decide +kernel
theorem dX7_next_88 : decode cX7_next 88 = .ok (.iinc 6 1, 3) := by decide +kernel
theorem dX7_next_91 : decode cX7_next 91 = .ok (.goto (-32), 3) := by decide +kernel
theorem dX7_next_94 : decode cX7_next 94 = .ok (.bipush (-2), 2) := by decide +kernel
theorem dX7_next_96 : decode cX7_next 96 = .ok (.ireturn, 1) := by decide +kernel
set_option maxRecDepth 100000 in
theorem ggX7_all_X5_round : GoodIn wsX7_all wsX5_round := goodIn_r _ [6, 7, 8, 9, 10, 11, 12, 13, 14, 92, 93, 94, 95, 96, 97, 98, 99, 100, 101, 102] rfl gd_wsX5_round
set_option maxRecDepth 100000 in
theorem gX7_all_X5_round : GoodIn wsX7_all (wsV RX7 168 RX5 yX5_round wsX5_round) := goodIn_app (goodIn_r _ [2, 3, 4, 5] rfl (by decide +kernel)) ggX7_all_X5_round
set_option maxRecDepth 100000 in
theorem ggX7_all_X5_turnTo : GoodIn wsX7_all wsX5_turnTo := goodIn_r _ [18, 7, 19, 20, 21, 22, 5, 23, 24, 8, 25, 10, 26, 92, 93, 94, 95, 96, 97, 98, 99, 100, 101, 102] rfl gd_wsX5_turnTo
set_option maxRecDepth 100000 in
theorem gX7_all_X5_turnTo : GoodIn wsX7_all (wsV RX7 171 RX5 yX5_turnTo wsX5_turnTo) := goodIn_app (goodIn_r _ [15, 16, 17, 5] rfl (by decide +kernel)) ggX7_all_X5_turnTo
set_option maxRecDepth 20000 in
theorem gd_wsX5_allMeet : wsX5_allMeet.all goodWord = true := by decide +kernel
set_option maxRecDepth 100000 in
theorem ggX7_all_X5_allMeet : GoodIn wsX7_all wsX5_allMeet := goodIn_r _ [30, 7, 19, 31, 32, 33, 5, 34, 35, 36, 37, 38, 39, 40, 41, 42, 43, 44, 45, 46, 47, 48, 49, 50, 51, 52, 53, 54, 55, 56, 8, 57, 58, 59, 60, 61, 62, 63, 64, 65, 66, 67, 68, 69, 70, 71, 72, 73, 74, 75, 76, 92, 93, 94, 95, 96, 97, 98, 99, 100, 101, 102, 103, 104, 105, 106, 107, 108, 109, 110, 111, 112, 113, 114] rfl gd_wsX5_allMeet
set_option maxRecDepth 100000 in
theorem gX7_all_X5_allMeet : GoodIn wsX7_all (wsV RX7 175 RX5 yX5_allMeet wsX5_allMeet) := goodIn_app (goodIn_r _ [27, 28, 29, 5] rfl (by decide +kernel)) ggX7_all_X5_allMeet
set_option maxRecDepth 100000 in
theorem ggX7_all_X5_forward : GoodIn wsX7_all wsX5_forward := goodIn_r _ [80, 7, 19, 8, 92, 93, 94, 95, 96, 97, 98, 99, 100, 101, 102] rfl gd_wsX5_forward
set_option maxRecDepth 100000 in
theorem gX7_all_X5_forward : GoodIn wsX7_all (wsV RX7 178 RX5 yX5_forward wsX5_forward) := goodIn_app (goodIn_r _ [77, 78, 79, 5] rfl (by decide +kernel)) ggX7_all_X5_forward
theorem dX7_all_0 : decode cX7_all 0 = .ok (.aload_n 0, 1) := by decide +kernel
theorem dX7_all_1 : decode cX7_all 1 = .ok (.getfield 21, 3) := by decide +kernel
theorem dX7_all_4 : decode cX7_all 4 = .ok (.invokevirtual 168, 3) := by decide +kernel
theorem dX7_all_7 : decode cX7_all 7 = .ok (.istore_n 1, 1) := by decide +kernel
theorem dX7_all_8 : decode cX7_all 8 = .ok (.iconst 0, 1) := by decide +kernel
theorem dX7_all_9 : decode cX7_all 9 = .ok (.istore_n 2, 1) := by decide +kernel
theorem dX7_all_10 : decode cX7_all 10 = .ok (.aload_n 0, 1) := by decide +kernel
theorem dX7_all_11 : decode cX7_all 11 = .ok (.getfield 21, 3) := by decide +kernel
theorem dX7_all_14 : decode cX7_all 14 = .ok (.iconst 0, 1) := by decide +kernel
theorem dX7_all_15 : decode cX7_all 15 = .ok (.invokevirtual 171, 3) := by decide +kernel
theorem dX7_all_18 : decode cX7_all 18 = .ok (.iconst 0, 1) := by decide +kernel
theorem dX7_all_19 : decode cX7_all 19 = .ok (.istore_n 3, 1) := by decide +kernel
theorem dX7_all_20 : decode cX7_all 20 = .ok (.iload_n 3, 1) := by decide +kernel
theorem dX7_all_21 : decode cX7_all 21 = .ok (.iload_n 1, 1) := by decide +kernel
theorem dX7_all_22 : decode cX7_all 22 = .ok (.if_icmp .ge 29, 3) := by decide +kernel
theorem dX7_all_25 : decode cX7_all 25 = .ok (.aload_n 0, 1) := by decide +kernel
theorem dX7_all_26 : decode cX7_all 26 = .ok (.getfield 21, 3) := by decide +kernel
theorem dX7_all_29 : decode cX7_all 29 = .ok (.invokevirtual 175, 3) := by decide +kernel
theorem dX7_all_32 : decode cX7_all 32 = .ok (.ifCond .eq 6, 3) := by decide +kernel
theorem dX7_all_35 : decode cX7_all 35 = .ok (.iinc 2 1, 3) := by decide +kernel
theorem dX7_all_38 : decode cX7_all 38 = .ok (.aload_n 0, 1) := by decide +kernel
theorem dX7_all_39 : decode cX7_all 39 = .ok (.getfield 21, 3) := by decide +kernel
theorem dX7_all_42 : decode cX7_all 42 = .ok (.invokevirtual 178, 3) := by decide +kernel
theorem dX7_all_45 : decode cX7_all 45 = .ok (.iinc 3 1, 3) := by decide +kernel
theorem dX7_all_48 : decode cX7_all 48 = .ok (.goto (-28), 3) := by decide +kernel
theorem dX7_all_51 : decode cX7_all 51 = .ok (.iload_n 2, 1) := by decide +kernel
theorem dX7_all_52 : decode cX7_all 52 = .ok (.ireturn, 1) := by decide +kernel
set_option maxRecDepth 100000 in
theorem ggX7_joined_X7_isWorldNumber : GoodIn wsX7_joined wsX7_isWorldNumber := goodIn_r _ [6, 1, 7, 89, 90, 91, 92, 93, 94, 95, 96, 97, 98, 99, 100, 101, 102, 103, 104, 105, 106, 107, 108, 109, 110] rfl gd_wsX7_isWorldNumber
set_option maxRecDepth 100000 in
theorem gX7_joined_X7_isWorldNumber : GoodIn wsX7_joined (wsV RX7 122 RX7 yX7_isWorldNumber wsX7_isWorldNumber) := goodIn_app (goodIn_r _ [2, 3, 4, 5] rfl (by decide +kernel)) ggX7_joined_X7_isWorldNumber
set_option maxRecDepth 100000 in
theorem ggX7_joined_X7_isStep : GoodIn wsX7_joined wsX7_isStep := goodIn_r _ [10, 11] rfl gd_wsX7_isStep
set_option maxRecDepth 100000 in
theorem gX7_joined_X7_isStep : GoodIn wsX7_joined (va_wsS RX7 141 yX7_isStep wsX7_isStep) := goodIn_app (goodIn_r _ [8, 9, 5] rfl (by decide +kernel)) ggX7_joined_X7_isStep
set_option maxRecDepth 100000 in
theorem ggX7_joined_X5_turnTo : GoodIn wsX7_joined wsX5_turnTo := goodIn_r _ [16, 17, 18, 19, 20, 21, 15, 22, 23, 24, 25, 5, 26, 100, 101, 102, 103, 104, 105, 106, 107, 108, 109, 110] rfl gd_wsX5_turnTo
set_option maxRecDepth 100000 in
theorem gX7_joined_X5_turnTo : GoodIn wsX7_joined (wsV RX7 171 RX5 yX5_turnTo wsX5_turnTo) := goodIn_app (goodIn_r _ [12, 13, 14, 15] rfl (by decide +kernel)) ggX7_joined_X5_turnTo
set_option maxRecDepth 100000 in
theorem ggX7_joined_X5_word : GoodIn wsX7_joined wsX5_word := goodIn_r _ [30, 17, 18, 31, 32, 33, 15, 34, 35, 36, 37, 38, 39, 40, 41, 42, 43, 44, 45, 46, 47, 48, 49, 50, 51, 52, 53, 54, 55, 56, 24, 57, 58, 59, 60, 61, 62, 63, 64, 65, 66, 67, 68, 69, 70, 71, 72, 73, 74, 75, 76, 100, 101, 102, 103, 104, 105, 106, 107, 108, 109, 110, 111, 112, 113, 114, 115, 116, 117, 118, 119, 120, 121, 122] rfl gd_wsX5_word
set_option maxRecDepth 100000 in
theorem gX7_joined_X5_word : GoodIn wsX7_joined (wsV RX7 181 RX5 yX5_word wsX5_word) := goodIn_app (goodIn_r _ [27, 28, 29, 15] rfl (by decide +kernel)) ggX7_joined_X5_word
set_option maxRecDepth 100000 in
theorem ggX7_joined_X5_reached : GoodIn wsX7_joined wsX5_reached := goodIn_r _ [80, 81, 82, 83, 15, 84, 40, 41, 85, 86, 87, 88, 17, 100, 101, 102, 103, 104, 105, 106, 107, 108, 109, 110] rfl gd_wsX5_reached
set_option maxRecDepth 100000 in
theorem gX7_joined_X5_reached : GoodIn wsX7_joined (wsV RX7 184 RX5 yX5_reached wsX5_reached) := goodIn_app (goodIn_r _ [77, 78, 79, 15] rfl (by decide +kernel)) ggX7_joined_X5_reached
theorem dX7_joined_0 : decode cX7_joined 0 = .ok (.aload_n 0, 1) := by decide +kernel
theorem dX7_joined_1 : decode cX7_joined 1 = .ok (.iload_n 1, 1) := by decide +kernel
theorem dX7_joined_2 : decode cX7_joined 2 = .ok (.invokevirtual 122, 3) := by decide +kernel
theorem dX7_joined_5 : decode cX7_joined 5 = .ok (.ifCond .eq 10, 3) := by decide +kernel
theorem dX7_joined_8 : decode cX7_joined 8 = .ok (.iload_n 2, 1) := by decide +kernel
theorem dX7_joined_9 : decode cX7_joined 9 = .ok (.invokestatic 141, 3) := by decide +kernel
theorem dX7_joined_12 : decode cX7_joined 12 = .ok (.ifCond .ne 5, 3) := by decide +kernel
theorem dX7_joined_15 : decode cX7_joined 15 = .ok (.iconst (-1), 1) := by decide +kernel
theorem dX7_joined_16 : decode cX7_joined 16 = .ok (.ireturn, 1) := by decide +kernel
theorem dX7_joined_17 : decode cX7_joined 17 = .ok (.aload_n 0, 1) := by decide +kernel
theorem dX7_joined_18 : decode cX7_joined 18 = .ok (.getfield 21, 3) := by decide +kernel
theorem dX7_joined_21 : decode cX7_joined 21 = .ok (.iload_n 2, 1) := by decide +kernel
theorem dX7_joined_22 : decode cX7_joined 22 = .ok (.invokevirtual 171, 3) := by decide +kernel
theorem dX7_joined_25 : decode cX7_joined 25 = .ok (.aload_n 0, 1) := by decide +kernel
theorem dX7_joined_26 : decode cX7_joined 26 = .ok (.getfield 21, 3) := by decide +kernel
theorem dX7_joined_29 : decode cX7_joined 29 = .ok (.iload_n 1, 1) := by decide +kernel
theorem dX7_joined_30 : decode cX7_joined 30 = .ok (.aload_n 0, 1) := by decide +kernel
theorem dX7_joined_31 : decode cX7_joined 31 = .ok (.getfield 21, 3) := by decide +kernel
theorem dX7_joined_34 : decode cX7_joined 34 = .ok (.invokevirtual 181, 3) := by decide +kernel
theorem dX7_joined_37 : decode cX7_joined 37 = .ok (.invokevirtual 184, 3) := by decide +kernel
theorem dX7_joined_40 : decode cX7_joined 40 = .ok (.ireturn, 1) := by decide +kernel
set_option maxRecDepth 100000 in
theorem ggX7_lasts_X7_isPair : GoodIn wsX7_lasts wsX7_isPair := goodIn_r _ [6, 1, 7, 102, 103, 104, 105, 106, 107, 108, 109, 110, 111, 112, 113, 114, 115, 116, 117, 118, 119, 120, 121, 122, 123] rfl gd_wsX7_isPair
set_option maxRecDepth 100000 in
theorem gX7_lasts_X7_isPair : GoodIn wsX7_lasts (wsV RX7 147 RX7 yX7_isPair wsX7_isPair) := goodIn_app (goodIn_r _ [2, 3, 4, 5] rfl (by decide +kernel)) ggX7_lasts_X7_isPair
set_option maxRecDepth 100000 in
theorem ggX7_lasts_X7_isStep : GoodIn wsX7_lasts wsX7_isStep := goodIn_r _ [10, 11] rfl gd_wsX7_isStep
set_option maxRecDepth 100000 in
theorem gX7_lasts_X7_isStep : GoodIn wsX7_lasts (va_wsS RX7 141 yX7_isStep wsX7_isStep) := goodIn_app (goodIn_r _ [8, 9, 5] rfl (by decide +kernel)) ggX7_lasts_X7_isStep
set_option maxRecDepth 100000 in
theorem ggX7_lasts_X5_round : GoodIn wsX7_lasts wsX5_round := goodIn_r _ [16, 17, 18, 19, 5, 20, 21, 22, 23, 113, 114, 115, 116, 117, 118, 119, 120, 121, 122, 123] rfl gd_wsX5_round
set_option maxRecDepth 100000 in
theorem gX7_lasts_X5_round : GoodIn wsX7_lasts (wsV RX7 168 RX5 yX5_round wsX5_round) := goodIn_app (goodIn_r _ [12, 13, 14, 15] rfl (by decide +kernel)) ggX7_lasts_X5_round
set_option maxRecDepth 100000 in
theorem ggX7_lasts_X5_turnTo : GoodIn wsX7_lasts wsX5_turnTo := goodIn_r _ [27, 17, 28, 29, 30, 31, 15, 32, 33, 18, 34, 5, 35, 113, 114, 115, 116, 117, 118, 119, 120, 121, 122, 123] rfl gd_wsX5_turnTo
set_option maxRecDepth 100000 in
theorem gX7_lasts_X5_turnTo : GoodIn wsX7_lasts (wsV RX7 171 RX5 yX5_turnTo wsX5_turnTo) := goodIn_app (goodIn_r _ [24, 25, 26, 15] rfl (by decide +kernel)) ggX7_lasts_X5_turnTo
set_option maxRecDepth 100000 in
theorem ggX7_lasts_X5_word : GoodIn wsX7_lasts wsX5_word := goodIn_r _ [39, 17, 28, 40, 41, 42, 15, 43, 44, 45, 46, 47, 48, 49, 50, 51, 52, 53, 54, 55, 56, 57, 58, 59, 60, 61, 62, 63, 64, 65, 18, 66, 67, 68, 69, 70, 71, 72, 73, 74, 75, 76, 77, 78, 79, 80, 81, 82, 83, 84, 85, 113, 114, 115, 116, 117, 118, 119, 120, 121, 122, 123, 124, 125, 126, 127, 128, 129, 130, 131, 132, 133, 134, 135] rfl gd_wsX5_word
set_option maxRecDepth 100000 in
theorem gX7_lasts_X5_word : GoodIn wsX7_lasts (wsV RX7 181 RX5 yX5_word wsX5_word) := goodIn_app (goodIn_r _ [36, 37, 38, 15] rfl (by decide +kernel)) ggX7_lasts_X5_word
set_option maxRecDepth 100000 in
theorem ggX7_lasts_X5_reached : GoodIn wsX7_lasts wsX5_reached := goodIn_r _ [89, 90, 91, 92, 15, 93, 49, 50, 94, 95, 96, 97, 17, 113, 114, 115, 116, 117, 118, 119, 120, 121, 122, 123] rfl gd_wsX5_reached
set_option maxRecDepth 100000 in
theorem gX7_lasts_X5_reached : GoodIn wsX7_lasts (wsV RX7 184 RX5 yX5_reached wsX5_reached) := goodIn_app (goodIn_r _ [86, 87, 88, 15] rfl (by decide +kernel)) ggX7_lasts_X5_reached
set_option maxRecDepth 100000 in
theorem ggX7_lasts_X5_forward : GoodIn wsX7_lasts wsX5_forward := goodIn_r _ [101, 17, 28, 18, 113, 114, 115, 116, 117, 118, 119, 120, 121, 122, 123] rfl gd_wsX5_forward
set_option maxRecDepth 100000 in
theorem gX7_lasts_X5_forward : GoodIn wsX7_lasts (wsV RX7 178 RX5 yX5_forward wsX5_forward) := goodIn_app (goodIn_r _ [98, 99, 100, 15] rfl (by decide +kernel)) ggX7_lasts_X5_forward
theorem dX7_lasts_0 : decode cX7_lasts 0 = .ok (.aload_n 0, 1) := by decide +kernel
theorem dX7_lasts_1 : decode cX7_lasts 1 = .ok (.iload_n 1, 1) := by decide +kernel
theorem dX7_lasts_2 : decode cX7_lasts 2 = .ok (.invokevirtual 147, 3) := by decide +kernel
theorem dX7_lasts_5 : decode cX7_lasts 5 = .ok (.ifCond .eq 10, 3) := by decide +kernel
theorem dX7_lasts_8 : decode cX7_lasts 8 = .ok (.iload_n 2, 1) := by decide +kernel
theorem dX7_lasts_9 : decode cX7_lasts 9 = .ok (.invokestatic 141, 3) := by decide +kernel
theorem dX7_lasts_12 : decode cX7_lasts 12 = .ok (.ifCond .ne 5, 3) := by decide +kernel
theorem dX7_lasts_15 : decode cX7_lasts 15 = .ok (.iconst (-1), 1) := by decide +kernel
theorem dX7_lasts_16 : decode cX7_lasts 16 = .ok (.ireturn, 1) := by decide +kernel
theorem dX7_lasts_17 : decode cX7_lasts 17 = .ok (.iload_n 1, 1) := by decide +kernel
theorem dX7_lasts_18 : decode cX7_lasts 18 = .ok (.bipush 10, 2) := by decide +kernel
theorem dX7_lasts_20 : decode cX7_lasts 20 = .ok (.idiv, 1) := by decide +kernel
theorem dX7_lasts_21 : decode cX7_lasts 21 = .ok (.istore_n 3, 1) := by decide +kernel
theorem dX7_lasts_22 : decode cX7_lasts 22 = .ok (.iconst 1, 1) := by decide +kernel
theorem dX7_lasts_23 : decode cX7_lasts 23 = .ok (.iload_n 1, 1) := by decide +kernel
theorem dX7_lasts_24 : decode cX7_lasts 24 = .ok (.bipush 10, 2) := by decide +kernel
theorem dX7_lasts_26 : decode cX7_lasts 26 = .ok (.irem, 1) := by decide +kernel
theorem dX7_lasts_27 : decode cX7_lasts 27 = .ok (.ishl, 1) := by decide +kernel
theorem dX7_lasts_28 : decode cX7_lasts 28 = .ok (.istore 4, 2) := by decide +kernel
theorem dX7_lasts_30 : decode cX7_lasts 30 = .ok (.aload_n 0, 1) := by decide +kernel
theorem dX7_lasts_31 : decode cX7_lasts 31 = .ok (.getfield 21, 3) := by decide +kernel
theorem dX7_lasts_34 : decode cX7_lasts 34 = .ok (.invokevirtual 168, 3) := by decide +kernel
theorem dX7_lasts_37 : decode cX7_lasts 37 = .ok (.istore 5, 2) := by decide +kernel
theorem dX7_lasts_39 : decode cX7_lasts 39 = .ok (.aload_n 0, 1) := by decide +kernel
theorem dX7_lasts_40 : decode cX7_lasts 40 = .ok (.getfield 21, 3) := by decide +kernel
theorem dX7_lasts_43 : decode cX7_lasts 43 = .ok (.iload_n 2, 1) := by decide +kernel
theorem dX7_lasts_44 : decode cX7_lasts 44 = .ok (.invokevirtual 171, 3) := by decide +kernel
theorem dX7_lasts_47 : decode cX7_lasts 47 = .ok (.iconst 0, 1) := by decide +kernel
theorem dX7_lasts_48 : decode cX7_lasts 48 = .ok (.istore 6, 2) := by decide +kernel
theorem dX7_lasts_50 : decode cX7_lasts 50 = .ok (.iload 6, 2) := by decide +kernel
theorem dX7_lasts_52 : decode cX7_lasts 52 = .ok (.iload 5, 2) := by decide +kernel
theorem dX7_lasts_54 : decode cX7_lasts 54 = .ok (.if_icmp .ge 40, 3) := by decide +kernel
theorem dX7_lasts_57 : decode cX7_lasts 57 = .ok (.aload_n 0, 1) := by decide +kernel
theorem dX7_lasts_58 : decode cX7_lasts 58 = .ok (.getfield 21, 3) := by decide +kernel
theorem dX7_lasts_61 : decode cX7_lasts 61 = .ok (.iload_n 3, 1) := by decide +kernel
theorem dX7_lasts_62 : decode cX7_lasts 62 = .ok (.aload_n 0, 1) := by decide +kernel
theorem dX7_lasts_63 : decode cX7_lasts 63 = .ok (.getfield 21, 3) := by decide +kernel
theorem dX7_lasts_66 : decode cX7_lasts 66 = .ok (.invokevirtual 181, 3) := by decide +kernel
theorem dX7_lasts_69 : decode cX7_lasts 69 = .ok (.invokevirtual 184, 3) := by decide +kernel
theorem dX7_lasts_72 : decode cX7_lasts 72 = .ok (.iload 4, 2) := by decide +kernel
theorem dX7_lasts_74 : decode cX7_lasts 74 = .ok (.iand, 1) := by decide +kernel
theorem dX7_lasts_75 : decode cX7_lasts 75 = .ok (.ifCond .ne 6, 3) := by decide +kernel
theorem dX7_lasts_78 : decode cX7_lasts 78 = .ok (.iload 6, 2) := by decide +kernel
theorem dX7_lasts_80 : decode cX7_lasts 80 = .ok (.ireturn, 1) := by decide +kernel
theorem dX7_lasts_81 : decode cX7_lasts 81 = .ok (.aload_n 0, 1) := by decide +kernel
theorem dX7_lasts_82 : decode cX7_lasts 82 = .ok (.getfield 21, 3) := by decide +kernel
theorem dX7_lasts_85 : decode cX7_lasts 85 = .ok (.invokevirtual 178, 3) := by decide +kernel
theorem dX7_lasts_88 : decode cX7_lasts 88 = .ok (.iinc 6 1, 3) := by decide +kernel
theorem dX7_lasts_91 : decode cX7_lasts 91 = .ok (.goto (-41), 3) := by decide +kernel
theorem dX7_lasts_94 : decode cX7_lasts 94 = .ok (.bipush (-2), 2) := by decide +kernel
theorem dX7_lasts_96 : decode cX7_lasts 96 = .ok (.ireturn, 1) := by decide +kernel
set_option maxRecDepth 100000 in
theorem ggX7_unheard_X7_isPair : GoodIn wsX7_unheard wsX7_isPair := goodIn_r _ [6, 1, 7, 86, 87, 88, 89, 90, 91, 92, 93, 94, 95, 96, 97, 98, 99, 100, 101, 102, 103, 104, 105, 106, 107] rfl gd_wsX7_isPair
set_option maxRecDepth 100000 in
theorem gX7_unheard_X7_isPair : GoodIn wsX7_unheard (wsV RX7 147 RX7 yX7_isPair wsX7_isPair) := goodIn_app (goodIn_r _ [2, 3, 4, 5] rfl (by decide +kernel)) ggX7_unheard_X7_isPair
set_option maxRecDepth 100000 in
theorem ggX7_unheard_X7_isWorldNumber : GoodIn wsX7_unheard wsX7_isWorldNumber := goodIn_r _ [11, 1, 7, 86, 87, 88, 89, 90, 91, 92, 93, 94, 95, 96, 97, 98, 99, 100, 101, 102, 103, 104, 105, 106, 107] rfl gd_wsX7_isWorldNumber
set_option maxRecDepth 100000 in
theorem gX7_unheard_X7_isWorldNumber : GoodIn wsX7_unheard (wsV RX7 122 RX7 yX7_isWorldNumber wsX7_isWorldNumber) := goodIn_app (goodIn_r _ [8, 9, 10, 5] rfl (by decide +kernel)) ggX7_unheard_X7_isWorldNumber
set_option maxRecDepth 100000 in
theorem ggX7_unheard_X7_isStep : GoodIn wsX7_unheard wsX7_isStep := goodIn_r _ [14, 15] rfl gd_wsX7_isStep
set_option maxRecDepth 100000 in
theorem gX7_unheard_X7_isStep : GoodIn wsX7_unheard (va_wsS RX7 141 yX7_isStep wsX7_isStep) := goodIn_app (goodIn_r _ [12, 13, 5] rfl (by decide +kernel)) ggX7_unheard_X7_isStep
set_option maxRecDepth 100000 in
theorem ggX7_unheard_X5_round : GoodIn wsX7_unheard wsX5_round := goodIn_r _ [20, 21, 22, 23, 5, 24, 25, 26, 27, 97, 98, 99, 100, 101, 102, 103, 104, 105, 106, 107] rfl gd_wsX5_round
set_option maxRecDepth 100000 in
theorem gX7_unheard_X5_round : GoodIn wsX7_unheard (wsV RX7 168 RX5 yX5_round wsX5_round) := goodIn_app (goodIn_r _ [16, 17, 18, 19] rfl (by decide +kernel)) ggX7_unheard_X5_round
set_option maxRecDepth 100000 in
theorem ggX7_unheard_X5_meet : GoodIn wsX7_unheard wsX5_meet := goodIn_r _ [31, 32, 33, 34, 35, 36, 37, 38, 39, 40, 41, 19, 42, 43, 22, 44, 5, 45, 46, 47, 48, 49, 50, 51, 52, 53, 54, 55, 56, 57, 58, 59, 60, 61, 62, 63, 64, 65, 66, 67, 68, 69, 70, 71, 72, 73, 74, 75, 76, 77, 78, 79, 80, 81, 82, 83, 84, 85, 97, 98, 99, 100, 101, 102, 103, 104, 105, 106, 107, 108, 109, 110, 111, 112, 113, 114, 115, 116, 117, 118, 119] rfl gd_wsX5_meet
set_option maxRecDepth 100000 in
theorem gX7_unheard_X5_meet : GoodIn wsX7_unheard (wsV RX7 150 RX5 yX5_meet wsX5_meet) := goodIn_app (goodIn_r _ [28, 29, 30, 19] rfl (by decide +kernel)) ggX7_unheard_X5_meet
theorem dX7_unheard_0 : decode cX7_unheard 0 = .ok (.aload_n 0, 1) := by decide +kernel
theorem dX7_unheard_1 : decode cX7_unheard 1 = .ok (.iload_n 1, 1) := by decide +kernel
theorem dX7_unheard_2 : decode cX7_unheard 2 = .ok (.invokevirtual 147, 3) := by decide +kernel
theorem dX7_unheard_5 : decode cX7_unheard 5 = .ok (.ifCond .eq 18, 3) := by decide +kernel
theorem dX7_unheard_8 : decode cX7_unheard 8 = .ok (.aload_n 0, 1) := by decide +kernel
theorem dX7_unheard_9 : decode cX7_unheard 9 = .ok (.iload_n 2, 1) := by decide +kernel
theorem dX7_unheard_10 : decode cX7_unheard 10 = .ok (.invokevirtual 122, 3) := by decide +kernel
theorem dX7_unheard_13 : decode cX7_unheard 13 = .ok (.ifCond .eq 10, 3) := by decide +kernel
theorem dX7_unheard_16 : decode cX7_unheard 16 = .ok (.iload_n 3, 1) := by decide +kernel
theorem dX7_unheard_17 : decode cX7_unheard 17 = .ok (.invokestatic 141, 3) := by decide +kernel
theorem dX7_unheard_20 : decode cX7_unheard 20 = .ok (.ifCond .ne 5, 3) := by decide +kernel
theorem dX7_unheard_23 : decode cX7_unheard 23 = .ok (.iconst (-1), 1) := by decide +kernel
theorem dX7_unheard_24 : decode cX7_unheard 24 = .ok (.ireturn, 1) := by decide +kernel
theorem dX7_unheard_25 : decode cX7_unheard 25 = .ok (.iload_n 1, 1) := by decide +kernel
theorem dX7_unheard_26 : decode cX7_unheard 26 = .ok (.bipush 10, 2) := by decide +kernel
theorem dX7_unheard_28 : decode cX7_unheard 28 = .ok (.idiv, 1) := by decide +kernel
theorem dX7_unheard_29 : decode cX7_unheard 29 = .ok (.istore 4, 2) := by decide +kernel
theorem dX7_unheard_31 : decode cX7_unheard 31 = .ok (.iload_n 1, 1) := by decide +kernel
theorem dX7_unheard_32 : decode cX7_unheard 32 = .ok (.bipush 10, 2) := by decide +kernel
theorem dX7_unheard_34 : decode cX7_unheard 34 = .ok (.irem, 1) := by decide +kernel
theorem dX7_unheard_35 : decode cX7_unheard 35 = .ok (.istore 5, 2) := by decide +kernel
theorem dX7_unheard_37 : decode cX7_unheard 37 = .ok (.iload_n 2, 1) := by decide +kernel
theorem dX7_unheard_38 : decode cX7_unheard 38 = .ok (.iload 4, 2) := by decide +kernel
theorem dX7_unheard_40 : decode cX7_unheard 40 = .ok (.if_icmp .eq 9, 3) := by decide +kernel
theorem dX7_unheard_43 : decode cX7_unheard 43 = .ok (.iload_n 2, 1) := by decide +kernel
theorem dX7_unheard_44 : decode cX7_unheard 44 = .ok (.iload 5, 2) := by decide +kernel
theorem dX7_unheard_46 : decode cX7_unheard 46 = .ok (.if_icmp .ne 5, 3) := by decide +kernel
theorem dX7_unheard_49 : decode cX7_unheard 49 = .ok (.iconst (-1), 1) := by decide +kernel
theorem dX7_unheard_50 : decode cX7_unheard 50 = .ok (.ireturn, 1) := by decide +kernel
theorem dX7_unheard_51 : decode cX7_unheard 51 = .ok (.aload_n 0, 1) := by decide +kernel
theorem dX7_unheard_52 : decode cX7_unheard 52 = .ok (.getfield 21, 3) := by decide +kernel
theorem dX7_unheard_55 : decode cX7_unheard 55 = .ok (.invokevirtual 168, 3) := by decide +kernel
theorem dX7_unheard_58 : decode cX7_unheard 58 = .ok (.istore 6, 2) := by decide +kernel
theorem dX7_unheard_60 : decode cX7_unheard 60 = .ok (.iconst 0, 1) := by decide +kernel
theorem dX7_unheard_61 : decode cX7_unheard 61 = .ok (.istore 7, 2) := by decide +kernel
theorem dX7_unheard_63 : decode cX7_unheard 63 = .ok (.iload 7, 2) := by decide +kernel
theorem dX7_unheard_65 : decode cX7_unheard 65 = .ok (.iload 6, 2) := by decide +kernel
theorem dX7_unheard_67 : decode cX7_unheard 67 = .ok (.if_icmp .ge 66, 3) := by decide +kernel
theorem dX7_unheard_70 : decode cX7_unheard 70 = .ok (.aload_n 0, 1) := by decide +kernel
theorem dX7_unheard_71 : decode cX7_unheard 71 = .ok (.getfield 21, 3) := by decide +kernel
theorem dX7_unheard_74 : decode cX7_unheard 74 = .ok (.iload 4, 2) := by decide +kernel
theorem dX7_unheard_76 : decode cX7_unheard 76 = .ok (.iload 5, 2) := by decide +kernel
theorem dX7_unheard_78 : decode cX7_unheard 78 = .ok (.iload_n 3, 1) := by decide +kernel
theorem dX7_unheard_79 : decode cX7_unheard 79 = .ok (.iload 7, 2) := by decide +kernel
theorem dX7_unheard_81 : decode cX7_unheard 81 = .ok (.iadd, 1) := by decide +kernel
theorem dX7_unheard_82 : decode cX7_unheard 82 = .ok (.invokevirtual 150, 3) := by decide +kernel
theorem dX7_unheard_85 : decode cX7_unheard 85 = .ok (.ifCond .eq 42, 3) := by decide +kernel
theorem dX7_unheard_88 : decode cX7_unheard 88 = .ok (.aload_n 0, 1) := by decide +kernel
theorem dX7_unheard_89 : decode cX7_unheard 89 = .ok (.getfield 21, 3) := by decide +kernel
theorem dX7_unheard_92 : decode cX7_unheard 92 = .ok (.iload 4, 2) := by decide +kernel
theorem dX7_unheard_94 : decode cX7_unheard 94 = .ok (.iload_n 2, 1) := by decide +kernel
theorem dX7_unheard_95 : decode cX7_unheard 95 = .ok (.iload_n 3, 1) := by decide +kernel
theorem dX7_unheard_96 : decode cX7_unheard 96 = .ok (.iload 7, 2) := by decide +kernel
theorem dX7_unheard_98 : decode cX7_unheard 98 = .ok (.iadd, 1) := by decide +kernel
theorem dX7_unheard_99 : decode cX7_unheard 99 = .ok (.invokevirtual 150, 3) := by decide +kernel
theorem dX7_unheard_102 : decode cX7_unheard 102 = .ok (.ifCond .ne 25, 3) := by decide +kernel
theorem dX7_unheard_105 : decode cX7_unheard 105 = .ok (.aload_n 0, 1) := by decide +kernel
theorem dX7_unheard_106 : decode cX7_unheard 106 = .ok (.getfield 21, 3) := by decide +kernel
theorem dX7_unheard_109 : decode cX7_unheard 109 = .ok (.iload 5, 2) := by decide +kernel
theorem dX7_unheard_111 : decode cX7_unheard 111 = .ok (.iload_n 2, 1) := by decide +kernel
theorem dX7_unheard_112 : decode cX7_unheard 112 = .ok (.iload_n 3, 1) := by decide +kernel
theorem dX7_unheard_113 : decode cX7_unheard 113 = .ok (.iload 7, 2) := by decide +kernel
theorem dX7_unheard_115 : decode cX7_unheard 115 = .ok (.iadd, 1) := by decide +kernel
theorem dX7_unheard_116 : decode cX7_unheard 116 = .ok (.invokevirtual 150, 3) := by decide +kernel
theorem dX7_unheard_119 : decode cX7_unheard 119 = .ok (.ifCond .ne 8, 3) := by decide +kernel
theorem dX7_unheard_122 : decode cX7_unheard 122 = .ok (.iload_n 3, 1) := by decide +kernel
theorem dX7_unheard_123 : decode cX7_unheard 123 = .ok (.iload 7, 2) := by decide +kernel
theorem dX7_unheard_125 : decode cX7_unheard 125 = .ok (.iadd, 1) := by decide +kernel
theorem dX7_unheard_126 : decode cX7_unheard 126 = .ok (.ireturn, 1) := by decide +kernel
theorem dX7_unheard_127 : decode cX7_unheard 127 = .ok (.iinc 7 1, 3) := by decide +kernel
theorem dX7_unheard_130 : decode cX7_unheard 130 = .ok (.goto (-67), 3) := by decide +kernel
theorem dX7_unheard_133 : decode cX7_unheard 133 = .ok (.bipush (-2), 2) := by decide +kernel
theorem dX7_unheard_135 : decode cX7_unheard 135 = .ok (.ireturn, 1) := by decide +kernel
set_option maxRecDepth 100000 in
theorem ggX7_beam_X7_isPair : GoodIn wsX7_beam wsX7_isPair := goodIn_r _ [6, 1, 7, 81, 82, 83, 84, 85, 86, 87, 88, 89, 90, 91, 92, 93, 94, 95, 96, 97, 98, 99, 100, 101, 102] rfl gd_wsX7_isPair
set_option maxRecDepth 100000 in
theorem gX7_beam_X7_isPair : GoodIn wsX7_beam (wsV RX7 147 RX7 yX7_isPair wsX7_isPair) := goodIn_app (goodIn_r _ [2, 3, 4, 5] rfl (by decide +kernel)) ggX7_beam_X7_isPair
set_option maxRecDepth 100000 in
theorem ggX7_beam_X7_isStep : GoodIn wsX7_beam wsX7_isStep := goodIn_r _ [10, 11] rfl gd_wsX7_isStep
set_option maxRecDepth 100000 in
theorem gX7_beam_X7_isStep : GoodIn wsX7_beam (va_wsS RX7 141 yX7_isStep wsX7_isStep) := goodIn_app (goodIn_r _ [8, 9, 5] rfl (by decide +kernel)) ggX7_beam_X7_isStep
set_option maxRecDepth 100000 in
theorem ggX7_beam_X5_meet : GoodIn wsX7_beam wsX5_meet := goodIn_r _ [16, 17, 18, 19, 20, 21, 22, 23, 24, 25, 26, 15, 27, 28, 29, 30, 5, 31, 32, 33, 34, 35, 36, 37, 38, 39, 40, 41, 42, 43, 44, 45, 46, 47, 48, 49, 50, 51, 52, 53, 54, 55, 56, 57, 58, 59, 60, 61, 62, 63, 64, 65, 66, 67, 68, 69, 70, 71, 92, 93, 94, 95, 96, 97, 98, 99, 100, 101, 102, 103, 104, 105, 106, 107, 108, 109, 110, 111, 112, 113, 114] rfl gd_wsX5_meet
set_option maxRecDepth 100000 in
theorem gX7_beam_X5_meet : GoodIn wsX7_beam (wsV RX7 150 RX5 yX5_meet wsX5_meet) := goodIn_app (goodIn_r _ [12, 13, 14, 15] rfl (by decide +kernel)) ggX7_beam_X5_meet
set_option maxRecDepth 20000 in
theorem gd_wsX5_between : wsX5_between.all goodWord = true := by decide +kernel
set_option maxRecDepth 100000 in
theorem ggX7_beam_X5_between : GoodIn wsX7_beam wsX5_between := goodIn_r _ [75, 76, 77, 78, 79, 15, 80, 24, 25, 26, 27, 28, 29, 30, 5, 31, 50, 51, 52, 53, 92, 93, 94, 95, 96, 97, 98, 99, 100, 101, 102] rfl gd_wsX5_between
set_option maxRecDepth 100000 in
theorem gX7_beam_X5_between : GoodIn wsX7_beam (wsV RX7 187 RX5 yX5_between wsX5_between) := goodIn_app (goodIn_r _ [72, 73, 74, 15] rfl (by decide +kernel)) ggX7_beam_X5_between
theorem dX7_beam_0 : decode cX7_beam 0 = .ok (.aload_n 0, 1) := by decide +kernel
theorem dX7_beam_1 : decode cX7_beam 1 = .ok (.iload_n 1, 1) := by decide +kernel
theorem dX7_beam_2 : decode cX7_beam 2 = .ok (.invokevirtual 147, 3) := by decide +kernel
theorem dX7_beam_5 : decode cX7_beam 5 = .ok (.ifCond .eq 10, 3) := by decide +kernel
theorem dX7_beam_8 : decode cX7_beam 8 = .ok (.iload_n 2, 1) := by decide +kernel
theorem dX7_beam_9 : decode cX7_beam 9 = .ok (.invokestatic 141, 3) := by decide +kernel
theorem dX7_beam_12 : decode cX7_beam 12 = .ok (.ifCond .ne 5, 3) := by decide +kernel
theorem dX7_beam_15 : decode cX7_beam 15 = .ok (.iconst (-1), 1) := by decide +kernel
theorem dX7_beam_16 : decode cX7_beam 16 = .ok (.ireturn, 1) := by decide +kernel
theorem dX7_beam_17 : decode cX7_beam 17 = .ok (.aload_n 0, 1) := by decide +kernel
theorem dX7_beam_18 : decode cX7_beam 18 = .ok (.getfield 21, 3) := by decide +kernel
theorem dX7_beam_21 : decode cX7_beam 21 = .ok (.iload_n 1, 1) := by decide +kernel
theorem dX7_beam_22 : decode cX7_beam 22 = .ok (.bipush 10, 2) := by decide +kernel
theorem dX7_beam_24 : decode cX7_beam 24 = .ok (.idiv, 1) := by decide +kernel
theorem dX7_beam_25 : decode cX7_beam 25 = .ok (.iload_n 1, 1) := by decide +kernel
theorem dX7_beam_26 : decode cX7_beam 26 = .ok (.bipush 10, 2) := by decide +kernel
theorem dX7_beam_28 : decode cX7_beam 28 = .ok (.irem, 1) := by decide +kernel
theorem dX7_beam_29 : decode cX7_beam 29 = .ok (.iload_n 2, 1) := by decide +kernel
theorem dX7_beam_30 : decode cX7_beam 30 = .ok (.invokevirtual 150, 3) := by decide +kernel
theorem dX7_beam_33 : decode cX7_beam 33 = .ok (.ifCond .eq 22, 3) := by decide +kernel
theorem dX7_beam_36 : decode cX7_beam 36 = .ok (.aload_n 0, 1) := by decide +kernel
theorem dX7_beam_37 : decode cX7_beam 37 = .ok (.getfield 21, 3) := by decide +kernel
theorem dX7_beam_40 : decode cX7_beam 40 = .ok (.iload_n 1, 1) := by decide +kernel
theorem dX7_beam_41 : decode cX7_beam 41 = .ok (.bipush 10, 2) := by decide +kernel
theorem dX7_beam_43 : decode cX7_beam 43 = .ok (.idiv, 1) := by decide +kernel
theorem dX7_beam_44 : decode cX7_beam 44 = .ok (.iload_n 1, 1) := by decide +kernel
theorem dX7_beam_45 : decode cX7_beam 45 = .ok (.bipush 10, 2) := by decide +kernel
theorem dX7_beam_47 : decode cX7_beam 47 = .ok (.irem, 1) := by decide +kernel
theorem dX7_beam_48 : decode cX7_beam 48 = .ok (.iload_n 2, 1) := by decide +kernel
theorem dX7_beam_49 : decode cX7_beam 49 = .ok (.invokevirtual 187, 3) := by decide +kernel
theorem dX7_beam_52 : decode cX7_beam 52 = .ok (.goto 5, 3) := by decide +kernel
theorem dX7_beam_55 : decode cX7_beam 55 = .ok (.bipush (-2), 2) := by decide +kernel
theorem dX7_beam_57 : decode cX7_beam 57 = .ok (.ireturn, 1) := by decide +kernel
set_option maxRecDepth 100000 in
theorem ggX7_soonest_X7_isPair : GoodIn wsX7_soonest wsX7_isPair := goodIn_r _ [6, 7, 8, 117, 118, 119, 120, 121, 122, 123, 124, 125, 126, 127, 128, 129, 130, 131, 132, 133, 134, 135, 136, 137, 138] rfl gd_wsX7_isPair
set_option maxRecDepth 100000 in
theorem gX7_soonest_X7_isPair : GoodIn wsX7_soonest (wsV RX7 147 RX7 yX7_isPair wsX7_isPair) := goodIn_app (goodIn_r _ [2, 3, 4, 5] rfl (by decide +kernel)) ggX7_soonest_X7_isPair
set_option maxRecDepth 100000 in
theorem ggX7_soonest_X7_isStep : GoodIn wsX7_soonest wsX7_isStep := goodIn_r _ [11, 12] rfl gd_wsX7_isStep
set_option maxRecDepth 100000 in
theorem gX7_soonest_X7_isStep : GoodIn wsX7_soonest (va_wsS RX7 141 yX7_isStep wsX7_isStep) := goodIn_app (goodIn_r _ [9, 10, 5] rfl (by decide +kernel)) ggX7_soonest_X7_isStep
set_option maxRecDepth 20000 in
theorem gd_wsX6_fewestSteps : wsX6_fewestSteps.all goodWord = true := by decide +kernel
set_option maxRecDepth 100000 in
theorem ggX7_soonest_X6_fewestSteps : GoodIn wsX7_soonest wsX6_fewestSteps := goodIn_r _ [17, 18, 19, 20, 21, 22, 23, 24, 25, 26, 27, 28, 29, 30, 31, 32, 33, 34, 35, 36, 37, 38, 39, 5, 40, 41, 42, 43, 44, 45, 46, 47, 48, 49, 50, 51, 52, 53, 54, 55, 56, 57, 58, 59, 60, 61, 62, 63, 64, 65, 66, 67, 68, 69, 70, 71, 72, 73, 74, 75, 76, 77, 78, 79, 80, 81, 82, 83, 84, 85, 86, 87, 88, 89, 90, 91, 92, 93, 94, 95, 96, 97, 98, 99, 100, 101, 102, 103, 104, 105, 106, 107, 108, 109, 110, 111, 112, 113, 114, 115, 116, 139, 140, 141, 142, 143, 144, 145, 146, 147, 148, 149, 150, 151, 152, 128, 129, 130, 131, 132, 133, 134, 135, 136, 137, 138, 153, 154, 155, 156, 157, 158, 159, 160, 161, 162, 163, 164] rfl gd_wsX6_fewestSteps
set_option maxRecDepth 100000 in
theorem gX7_soonest_X6_fewestSteps : GoodIn wsX7_soonest (wsV RX7 190 RX6 yX6_fewestSteps wsX6_fewestSteps) := goodIn_app (goodIn_r _ [13, 14, 15, 16] rfl (by decide +kernel)) ggX7_soonest_X6_fewestSteps
theorem dX7_soonest_0 : decode cX7_soonest 0 = .ok (.aload_n 0, 1) := by decide +kernel
theorem dX7_soonest_1 : decode cX7_soonest 1 = .ok (.iload_n 1, 1) := by decide +kernel
theorem dX7_soonest_2 : decode cX7_soonest 2 = .ok (.invokevirtual 147, 3) := by decide +kernel
theorem dX7_soonest_5 : decode cX7_soonest 5 = .ok (.ifCond .eq 29, 3) := by decide +kernel
theorem dX7_soonest_8 : decode cX7_soonest 8 = .ok (.iload_n 2, 1) := by decide +kernel
theorem dX7_soonest_9 : decode cX7_soonest 9 = .ok (.invokestatic 141, 3) := by decide +kernel
theorem dX7_soonest_12 : decode cX7_soonest 12 = .ok (.ifCond .eq 22, 3) := by decide +kernel
theorem dX7_soonest_15 : decode cX7_soonest 15 = .ok (.aload_n 0, 1) := by decide +kernel
theorem dX7_soonest_16 : decode cX7_soonest 16 = .ok (.getfield 30, 3) := by decide +kernel
theorem dX7_soonest_19 : decode cX7_soonest 19 = .ok (.iload_n 1, 1) := by decide +kernel
theorem dX7_soonest_20 : decode cX7_soonest 20 = .ok (.bipush 10, 2) := by decide +kernel
theorem dX7_soonest_22 : decode cX7_soonest 22 = .ok (.idiv, 1) := by decide +kernel
theorem dX7_soonest_23 : decode cX7_soonest 23 = .ok (.iload_n 1, 1) := by decide +kernel
theorem dX7_soonest_24 : decode cX7_soonest 24 = .ok (.bipush 10, 2) := by decide +kernel
theorem dX7_soonest_26 : decode cX7_soonest 26 = .ok (.irem, 1) := by decide +kernel
theorem dX7_soonest_27 : decode cX7_soonest 27 = .ok (.iload_n 2, 1) := by decide +kernel
theorem dX7_soonest_28 : decode cX7_soonest 28 = .ok (.invokevirtual 190, 3) := by decide +kernel
theorem dX7_soonest_31 : decode cX7_soonest 31 = .ok (.goto 4, 3) := by decide +kernel
theorem dX7_soonest_34 : decode cX7_soonest 34 = .ok (.iconst (-1), 1) := by decide +kernel
theorem dX7_soonest_35 : decode cX7_soonest 35 = .ok (.ireturn, 1) := by decide +kernel
set_option maxRecDepth 100000 in
theorem ggX7_way_X7_isPair : GoodIn wsX7_way wsX7_isPair := goodIn_r _ [6, 7, 8, 140, 141, 142, 143, 144, 145, 146, 147, 148, 149, 150, 151, 152, 153, 154, 155, 156, 157, 158, 159, 160, 161] rfl gd_wsX7_isPair
set_option maxRecDepth 100000 in
theorem gX7_way_X7_isPair : GoodIn wsX7_way (wsV RX7 147 RX7 yX7_isPair wsX7_isPair) := goodIn_app (goodIn_r _ [2, 3, 4, 5] rfl (by decide +kernel)) ggX7_way_X7_isPair
set_option maxRecDepth 100000 in
theorem ggX7_way_X7_isStep : GoodIn wsX7_way wsX7_isStep := goodIn_r _ [11, 12] rfl gd_wsX7_isStep
set_option maxRecDepth 100000 in
theorem gX7_way_X7_isStep : GoodIn wsX7_way (va_wsS RX7 141 yX7_isStep wsX7_isStep) := goodIn_app (goodIn_r _ [9, 10, 5] rfl (by decide +kernel)) ggX7_way_X7_isStep
set_option maxRecDepth 100000 in
theorem ggX7_way_X6_fewestSteps : GoodIn wsX7_way wsX6_fewestSteps := goodIn_r _ [17, 18, 19, 20, 21, 22, 23, 24, 25, 26, 27, 28, 29, 30, 31, 32, 33, 34, 35, 36, 37, 38, 39, 5, 40, 41, 42, 43, 44, 45, 46, 47, 48, 49, 50, 51, 52, 53, 54, 55, 56, 57, 58, 59, 60, 61, 62, 63, 64, 65, 66, 67, 68, 69, 70, 71, 72, 73, 74, 75, 76, 77, 78, 79, 80, 81, 82, 83, 84, 85, 86, 87, 88, 89, 90, 91, 92, 93, 94, 95, 96, 97, 98, 99, 100, 101, 102, 103, 104, 105, 106, 107, 108, 109, 110, 111, 112, 113, 114, 115, 116, 162, 163, 164, 165, 166, 167, 168, 169, 170, 171, 172, 173, 174, 175, 151, 152, 153, 154, 155, 156, 157, 158, 159, 160, 161, 176, 177, 178, 179, 180, 181, 182, 183, 184, 185, 186, 187] rfl gd_wsX6_fewestSteps
set_option maxRecDepth 100000 in
theorem gX7_way_X6_fewestSteps : GoodIn wsX7_way (wsV RX7 190 RX6 yX6_fewestSteps wsX6_fewestSteps) := goodIn_app (goodIn_r _ [13, 14, 15, 16] rfl (by decide +kernel)) ggX7_way_X6_fewestSteps
set_option maxRecDepth 20000 in
theorem gd_wsX6_holder : wsX6_holder.all goodWord = true := by decide +kernel
set_option maxRecDepth 100000 in
theorem ggX7_way_X6_holder : GoodIn wsX7_way wsX6_holder := goodIn_r _ [120, 121, 122, 123, 16, 124, 18, 125, 126, 127, 128, 129, 130, 131, 19, 132, 133, 134, 65, 62, 66, 135, 30, 31, 23, 32, 33, 136, 137, 138, 139, 112, 100, 101, 102, 27, 28, 29, 162, 163, 164, 165, 166, 167, 168, 169, 170, 171, 172, 173, 174, 175, 151, 152, 153, 154, 155, 156, 157, 158, 159, 160, 161] rfl gd_wsX6_holder
set_option maxRecDepth 100000 in
theorem gX7_way_X6_holder : GoodIn wsX7_way (wsV RX7 193 RX6 yX6_holder wsX6_holder) := goodIn_app (goodIn_r _ [117, 118, 119, 16] rfl (by decide +kernel)) ggX7_way_X6_holder
theorem dX7_way_0 : decode cX7_way 0 = .ok (.aload_n 0, 1) := by decide +kernel
theorem dX7_way_1 : decode cX7_way 1 = .ok (.iload_n 1, 1) := by decide +kernel
theorem dX7_way_2 : decode cX7_way 2 = .ok (.invokevirtual 147, 3) := by decide +kernel
theorem dX7_way_5 : decode cX7_way 5 = .ok (.ifCond .eq 14, 3) := by decide +kernel
theorem dX7_way_8 : decode cX7_way 8 = .ok (.iload_n 2, 1) := by decide +kernel
theorem dX7_way_9 : decode cX7_way 9 = .ok (.invokestatic 141, 3) := by decide +kernel
theorem dX7_way_12 : decode cX7_way 12 = .ok (.ifCond .eq 7, 3) := by decide +kernel
theorem dX7_way_15 : decode cX7_way 15 = .ok (.iload_n 3, 1) := by decide +kernel
theorem dX7_way_16 : decode cX7_way 16 = .ok (.ifCond .ge 5, 3) := by decide +kernel
theorem dX7_way_19 : decode cX7_way 19 = .ok (.iconst (-1), 1) := by decide +kernel
theorem dX7_way_20 : decode cX7_way 20 = .ok (.ireturn, 1) := by decide +kernel
theorem dX7_way_21 : decode cX7_way 21 = .ok (.aload_n 0, 1) := by decide +kernel
theorem dX7_way_22 : decode cX7_way 22 = .ok (.getfield 30, 3) := by decide +kernel
theorem dX7_way_25 : decode cX7_way 25 = .ok (.iload_n 1, 1) := by decide +kernel
theorem dX7_way_26 : decode cX7_way 26 = .ok (.bipush 10, 2) := by decide +kernel
theorem dX7_way_28 : decode cX7_way 28 = .ok (.idiv, 1) := by decide +kernel
theorem dX7_way_29 : decode cX7_way 29 = .ok (.iload_n 1, 1) := by decide +kernel
theorem dX7_way_30 : decode cX7_way 30 = .ok (.bipush 10, 2) := by decide +kernel
theorem dX7_way_32 : decode cX7_way 32 = .ok (.irem, 1) := by decide +kernel
theorem dX7_way_33 : decode cX7_way 33 = .ok (.iload_n 2, 1) := by decide +kernel
theorem dX7_way_34 : decode cX7_way 34 = .ok (.invokevirtual 190, 3) := by decide +kernel
theorem dX7_way_37 : decode cX7_way 37 = .ok (.istore 4, 2) := by decide +kernel
theorem dX7_way_39 : decode cX7_way 39 = .ok (.iload 4, 2) := by decide +kernel
theorem dX7_way_41 : decode cX7_way 41 = .ok (.bipush (-2), 2) := by decide +kernel
theorem dX7_way_43 : decode cX7_way 43 = .ok (.if_icmp .ne 6, 3) := by decide +kernel
theorem dX7_way_46 : decode cX7_way 46 = .ok (.bipush (-2), 2) := by decide +kernel
theorem dX7_way_48 : decode cX7_way 48 = .ok (.ireturn, 1) := by decide +kernel
theorem dX7_way_49 : decode cX7_way 49 = .ok (.iload_n 3, 1) := by decide +kernel
theorem dX7_way_50 : decode cX7_way 50 = .ok (.iload 4, 2) := by decide +kernel
theorem dX7_way_52 : decode cX7_way 52 = .ok (.if_icmp .gt 24, 3) := by decide +kernel
theorem dX7_way_55 : decode cX7_way 55 = .ok (.aload_n 0, 1) := by decide +kernel
theorem dX7_way_56 : decode cX7_way 56 = .ok (.getfield 30, 3) := by decide +kernel
theorem dX7_way_59 : decode cX7_way 59 = .ok (.iload_n 1, 1) := by decide +kernel
theorem dX7_way_60 : decode cX7_way 60 = .ok (.bipush 10, 2) := by decide +kernel
theorem dX7_way_62 : decode cX7_way 62 = .ok (.idiv, 1) := by decide +kernel
theorem dX7_way_63 : decode cX7_way 63 = .ok (.iload_n 1, 1) := by decide +kernel
theorem dX7_way_64 : decode cX7_way 64 = .ok (.bipush 10, 2) := by decide +kernel
theorem dX7_way_66 : decode cX7_way 66 = .ok (.irem, 1) := by decide +kernel
theorem dX7_way_67 : decode cX7_way 67 = .ok (.iload 4, 2) := by decide +kernel
theorem dX7_way_69 : decode cX7_way 69 = .ok (.iload_n 3, 1) := by decide +kernel
theorem dX7_way_70 : decode cX7_way 70 = .ok (.invokevirtual 193, 3) := by decide +kernel
theorem dX7_way_73 : decode cX7_way 73 = .ok (.goto 4, 3) := by decide +kernel
theorem dX7_way_76 : decode cX7_way 76 = .ok (.iconst (-1), 1) := by decide +kernel
theorem dX7_way_77 : decode cX7_way 77 = .ok (.ireturn, 1) := by decide +kernel
set_option maxRecDepth 100000 in
theorem ggX7_hands_X7_isPair : GoodIn wsX7_hands wsX7_isPair := goodIn_r _ [6, 7, 8, 134, 135, 136, 137, 138, 139, 140, 141, 142, 143, 144, 145, 146, 147, 148, 149, 150, 151, 152, 153, 154, 155] rfl gd_wsX7_isPair
set_option maxRecDepth 100000 in
theorem gX7_hands_X7_isPair : GoodIn wsX7_hands (wsV RX7 147 RX7 yX7_isPair wsX7_isPair) := goodIn_app (goodIn_r _ [2, 3, 4, 5] rfl (by decide +kernel)) ggX7_hands_X7_isPair
set_option maxRecDepth 100000 in
theorem ggX7_hands_X7_isStep : GoodIn wsX7_hands wsX7_isStep := goodIn_r _ [11, 12] rfl gd_wsX7_isStep
set_option maxRecDepth 100000 in
theorem gX7_hands_X7_isStep : GoodIn wsX7_hands (va_wsS RX7 141 yX7_isStep wsX7_isStep) := goodIn_app (goodIn_r _ [9, 10, 5] rfl (by decide +kernel)) ggX7_hands_X7_isStep
set_option maxRecDepth 20000 in
theorem gd_wsX6_fewestHands : wsX6_fewestHands.all goodWord = true := by decide +kernel
set_option maxRecDepth 100000 in
theorem ggX7_hands_X6_fewestHands : GoodIn wsX7_hands wsX6_fewestHands := goodIn_r _ [17, 18, 19, 20, 21, 22, 23, 24, 25, 26, 27, 28, 29, 30, 31, 32, 33, 34, 35, 36, 37, 38, 39, 40, 5, 41, 42, 43, 44, 45, 46, 47, 48, 49, 50, 51, 52, 53, 54, 55, 56, 57, 58, 59, 60, 61, 62, 63, 64, 65, 66, 67, 68, 69, 70, 71, 72, 73, 74, 75, 76, 77, 78, 79, 80, 81, 82, 83, 84, 85, 86, 87, 88, 89, 90, 91, 92, 93, 94, 95, 96, 97, 98, 99, 100, 101, 102, 103, 104, 105, 106, 107, 108, 109, 110, 111, 112, 113, 114, 115, 116, 117, 118, 119, 16, 120, 121, 122, 123, 124, 125, 126, 127, 128, 129, 130, 131, 132, 133, 156, 157, 158, 159, 160, 161, 162, 163, 164, 165, 166, 167, 168, 169, 145, 146, 147, 148, 149, 150, 151, 152, 153, 154, 155, 170, 171, 172, 173, 174, 175, 176, 177, 178, 179, 180, 181] rfl gd_wsX6_fewestHands
set_option maxRecDepth 100000 in
theorem gX7_hands_X6_fewestHands : GoodIn wsX7_hands (wsV RX7 197 RX6 yX6_fewestHands wsX6_fewestHands) := goodIn_app (goodIn_r _ [13, 14, 15, 16] rfl (by decide +kernel)) ggX7_hands_X6_fewestHands
theorem dX7_hands_0 : decode cX7_hands 0 = .ok (.aload_n 0, 1) := by decide +kernel
theorem dX7_hands_1 : decode cX7_hands 1 = .ok (.iload_n 1, 1) := by decide +kernel
theorem dX7_hands_2 : decode cX7_hands 2 = .ok (.invokevirtual 147, 3) := by decide +kernel
theorem dX7_hands_5 : decode cX7_hands 5 = .ok (.ifCond .eq 29, 3) := by decide +kernel
theorem dX7_hands_8 : decode cX7_hands 8 = .ok (.iload_n 2, 1) := by decide +kernel
theorem dX7_hands_9 : decode cX7_hands 9 = .ok (.invokestatic 141, 3) := by decide +kernel
theorem dX7_hands_12 : decode cX7_hands 12 = .ok (.ifCond .eq 22, 3) := by decide +kernel
theorem dX7_hands_15 : decode cX7_hands 15 = .ok (.aload_n 0, 1) := by decide +kernel
theorem dX7_hands_16 : decode cX7_hands 16 = .ok (.getfield 30, 3) := by decide +kernel
theorem dX7_hands_19 : decode cX7_hands 19 = .ok (.iload_n 1, 1) := by decide +kernel
theorem dX7_hands_20 : decode cX7_hands 20 = .ok (.bipush 10, 2) := by decide +kernel
theorem dX7_hands_22 : decode cX7_hands 22 = .ok (.idiv, 1) := by decide +kernel
theorem dX7_hands_23 : decode cX7_hands 23 = .ok (.iload_n 1, 1) := by decide +kernel
theorem dX7_hands_24 : decode cX7_hands 24 = .ok (.bipush 10, 2) := by decide +kernel
theorem dX7_hands_26 : decode cX7_hands 26 = .ok (.irem, 1) := by decide +kernel
theorem dX7_hands_27 : decode cX7_hands 27 = .ok (.iload_n 2, 1) := by decide +kernel
theorem dX7_hands_28 : decode cX7_hands 28 = .ok (.invokevirtual 197, 3) := by decide +kernel
theorem dX7_hands_31 : decode cX7_hands 31 = .ok (.goto 4, 3) := by decide +kernel
theorem dX7_hands_34 : decode cX7_hands 34 = .ok (.iconst (-1), 1) := by decide +kernel
theorem dX7_hands_35 : decode cX7_hands 35 = .ok (.ireturn, 1) := by decide +kernel
set_option maxRecDepth 100000 in
theorem ggX7_waits_X7_isPair : GoodIn wsX7_waits wsX7_isPair := goodIn_r _ [8, 9, 10, 127, 128, 129, 130, 131, 132, 133, 134, 135, 136, 137, 152, 153, 154, 155, 156, 157, 158, 159, 160, 161, 162] rfl gd_wsX7_isPair
set_option maxRecDepth 100000 in
theorem gX7_waits_X7_isPair : GoodIn wsX7_waits (wsV RX7 147 RX7 yX7_isPair wsX7_isPair) := goodIn_app (goodIn_r _ [4, 5, 6, 7] rfl (by decide +kernel)) ggX7_waits_X7_isPair
set_option maxRecDepth 20000 in
theorem gd_wsX6_learnWait : wsX6_learnWait.all goodWord = true := by decide +kernel
set_option maxRecDepth 100000 in
theorem ggX7_waits_X6_learnWait : GoodIn wsX7_waits wsX6_learnWait := goodIn_r _ [15, 16, 17, 18, 19, 20, 21, 22, 23, 14, 24, 25, 26, 27, 28, 29, 30, 31, 32, 33, 34, 35, 36, 7, 37, 38, 39, 40, 41, 42, 43, 44, 45, 46, 47, 48, 49, 50, 51, 52, 53, 54, 55, 56, 57, 58, 59, 60, 61, 62, 63, 64, 65, 66, 67, 68, 69, 70, 71, 72, 73, 74, 75, 76, 77, 78, 79, 80, 81, 82, 83, 84, 85, 86, 87, 88, 89, 90, 91, 92, 93, 94, 95, 96, 97, 98, 99, 100, 101, 102, 103, 104, 105, 106, 107, 108, 109, 110, 111, 112, 113, 114, 115, 116, 117, 118, 119, 120, 121, 122, 123, 124, 125, 126, 138, 139, 140, 141, 142, 143, 144, 145, 146, 147, 148, 149, 150, 151, 152, 153, 154, 155, 156, 157, 158, 159, 160, 161, 162, 163, 164, 165, 166, 167, 168, 169, 170, 171, 172, 173, 174] rfl gd_wsX6_learnWait
set_option maxRecDepth 100000 in
theorem gX7_waits_X6_learnWait : GoodIn wsX7_waits (wsV RX7 200 RX6 yX6_learnWait wsX6_learnWait) := goodIn_app (goodIn_r _ [11, 12, 13, 14] rfl (by decide +kernel)) ggX7_waits_X6_learnWait
theorem dX7_waits_0 : decode cX7_waits 0 = .ok (.aload_n 0, 1) := by decide +kernel
theorem dX7_waits_1 : decode cX7_waits 1 = .ok (.iload_n 1, 1) := by decide +kernel
theorem dX7_waits_2 : decode cX7_waits 2 = .ok (.invokevirtual 147, 3) := by decide +kernel
theorem dX7_waits_5 : decode cX7_waits 5 = .ok (.ifCond .eq 12, 3) := by decide +kernel
theorem dX7_waits_8 : decode cX7_waits 8 = .ok (.iload_n 2, 1) := by decide +kernel
theorem dX7_waits_9 : decode cX7_waits 9 = .ok (.ifCond .lt 8, 3) := by decide +kernel
theorem dX7_waits_12 : decode cX7_waits 12 = .ok (.iload_n 2, 1) := by decide +kernel
theorem dX7_waits_13 : decode cX7_waits 13 = .ok (.iconst 1, 1) := by decide +kernel
theorem dX7_waits_14 : decode cX7_waits 14 = .ok (.if_icmp .le 5, 3) := by decide +kernel
theorem dX7_waits_17 : decode cX7_waits 17 = .ok (.iconst (-1), 1) := by decide +kernel
theorem dX7_waits_18 : decode cX7_waits 18 = .ok (.ireturn, 1) := by decide +kernel
theorem dX7_waits_19 : decode cX7_waits 19 = .ok (.aload_n 0, 1) := by decide +kernel
theorem dX7_waits_20 : decode cX7_waits 20 = .ok (.getfield 30, 3) := by decide +kernel
theorem dX7_waits_23 : decode cX7_waits 23 = .ok (.iload_n 1, 1) := by decide +kernel
theorem dX7_waits_24 : decode cX7_waits 24 = .ok (.bipush 10, 2) := by decide +kernel
theorem dX7_waits_26 : decode cX7_waits 26 = .ok (.idiv, 1) := by decide +kernel
theorem dX7_waits_27 : decode cX7_waits 27 = .ok (.iload_n 1, 1) := by decide +kernel
theorem dX7_waits_28 : decode cX7_waits 28 = .ok (.bipush 10, 2) := by decide +kernel
theorem dX7_waits_30 : decode cX7_waits 30 = .ok (.irem, 1) := by decide +kernel
theorem dX7_waits_31 : decode cX7_waits 31 = .ok (.invokevirtual 200, 3) := by decide +kernel
theorem dX7_waits_34 : decode cX7_waits 34 = .ok (.ifCond .ne 6, 3) := by decide +kernel
theorem dX7_waits_37 : decode cX7_waits 37 = .ok (.bipush (-2), 2) := by decide +kernel
theorem dX7_waits_39 : decode cX7_waits 39 = .ok (.ireturn, 1) := by decide +kernel
theorem dX7_waits_40 : decode cX7_waits 40 = .ok (.iload_n 2, 1) := by decide +kernel
theorem dX7_waits_41 : decode cX7_waits 41 = .ok (.ifCond .ne 13, 3) := by decide +kernel
theorem dX7_waits_44 : decode cX7_waits 44 = .ok (.aload_n 0, 1) := by decide +kernel
theorem dX7_waits_45 : decode cX7_waits 45 = .ok (.getfield 30, 3) := by decide +kernel
theorem dX7_waits_48 : decode cX7_waits 48 = .ok (.getfield 203, 3) := by decide +kernel
theorem dX7_waits_51 : decode cX7_waits 51 = .ok (.goto 10, 3) := by decide +kernel
theorem dX7_waits_54 : decode cX7_waits 54 = .ok (.aload_n 0, 1) := by decide +kernel
theorem dX7_waits_55 : decode cX7_waits 55 = .ok (.getfield 30, 3) := by decide +kernel
theorem dX7_waits_58 : decode cX7_waits 58 = .ok (.getfield 206, 3) := by decide +kernel
theorem dX7_waits_61 : decode cX7_waits 61 = .ok (.ireturn, 1) := by decide +kernel
set_option maxRecDepth 100000 in
theorem ggX7_relay_X7_isPair : GoodIn wsX7_relay wsX7_isPair := goodIn_r _ [8, 9, 10, 150, 151, 152, 153, 154, 155, 156, 157, 158, 159, 160, 175, 176, 177, 178, 179, 180, 181, 182, 183, 184, 185] rfl gd_wsX7_isPair
set_option maxRecDepth 100000 in
theorem gX7_relay_X7_isPair : GoodIn wsX7_relay (wsV RX7 147 RX7 yX7_isPair wsX7_isPair) := goodIn_app (goodIn_r _ [4, 5, 6, 7] rfl (by decide +kernel)) ggX7_relay_X7_isPair
set_option maxRecDepth 100000 in
theorem ggX7_relay_X5_isWorld : GoodIn wsX7_relay wsX5_isWorld := goodIn_r _ [14] rfl gd_wsX5_isWorld
set_option maxRecDepth 100000 in
theorem gX7_relay_X5_isWorld : GoodIn wsX7_relay (va_wsS RX7 65 yX5_isWorld wsX5_isWorld) := goodIn_app (goodIn_r _ [11, 12, 13] rfl (by decide +kernel)) ggX7_relay_X5_isWorld
set_option maxRecDepth 20000 in
theorem gd_wsX6_learnRelay : wsX6_learnRelay.all goodWord = true := by decide +kernel
set_option maxRecDepth 100000 in
theorem ggX7_relay_X6_learnRelay : GoodIn wsX7_relay wsX6_learnRelay := goodIn_r _ [19, 20, 21, 22, 23, 24, 25, 26, 27, 28, 29, 30, 13, 31, 32, 33, 34, 35, 36, 37, 38, 39, 40, 41, 42, 43, 44, 45, 46, 47, 48, 49, 50, 51, 18, 52, 53, 54, 55, 56, 57, 58, 59, 60, 7, 61, 62, 63, 64, 65, 66, 67, 68, 69, 70, 71, 72, 73, 74, 75, 76, 77, 78, 79, 80, 81, 82, 83, 84, 85, 86, 87, 88, 89, 90, 91, 92, 93, 94, 95, 96, 97, 98, 99, 100, 101, 102, 103, 104, 105, 106, 107, 108, 109, 110, 111, 112, 113, 114, 115, 116, 117, 118, 119, 120, 121, 122, 123, 124, 125, 126, 127, 128, 129, 130, 131, 132, 133, 134, 135, 136, 137, 138, 139, 140, 141, 142, 143, 144, 145, 146, 147, 148, 149, 161, 162, 163, 164, 165, 166, 167, 168, 169, 170, 171, 172, 173, 174, 175, 176, 177, 178, 179, 180, 181, 182, 183, 184, 185, 186, 187, 188, 189, 190, 191, 192, 193, 194, 195, 196, 197] rfl gd_wsX6_learnRelay
set_option maxRecDepth 100000 in
theorem gX7_relay_X6_learnRelay : GoodIn wsX7_relay (wsV RX7 209 RX6 yX6_learnRelay wsX6_learnRelay) := goodIn_app (goodIn_r _ [15, 16, 17, 18] rfl (by decide +kernel)) ggX7_relay_X6_learnRelay
theorem dX7_relay_0 : decode cX7_relay 0 = .ok (.aload_n 0, 1) := by decide +kernel
theorem dX7_relay_1 : decode cX7_relay 1 = .ok (.iload_n 1, 1) := by decide +kernel
theorem dX7_relay_2 : decode cX7_relay 2 = .ok (.invokevirtual 147, 3) := by decide +kernel
theorem dX7_relay_5 : decode cX7_relay 5 = .ok (.ifCond .eq 31, 3) := by decide +kernel
theorem dX7_relay_8 : decode cX7_relay 8 = .ok (.iload_n 2, 1) := by decide +kernel
theorem dX7_relay_9 : decode cX7_relay 9 = .ok (.ifCond .lt 27, 3) := by decide +kernel
theorem dX7_relay_12 : decode cX7_relay 12 = .ok (.iload_n 2, 1) := by decide +kernel
theorem dX7_relay_13 : decode cX7_relay 13 = .ok (.bipush 10, 2) := by decide +kernel
theorem dX7_relay_15 : decode cX7_relay 15 = .ok (.idiv, 1) := by decide +kernel
theorem dX7_relay_16 : decode cX7_relay 16 = .ok (.iconst 0, 1) := by decide +kernel
theorem dX7_relay_17 : decode cX7_relay 17 = .ok (.iload_n 2, 1) := by decide +kernel
theorem dX7_relay_18 : decode cX7_relay 18 = .ok (.bipush 10, 2) := by decide +kernel
theorem dX7_relay_20 : decode cX7_relay 20 = .ok (.irem, 1) := by decide +kernel
theorem dX7_relay_21 : decode cX7_relay 21 = .ok (.invokestatic 65, 3) := by decide +kernel
theorem dX7_relay_24 : decode cX7_relay 24 = .ok (.ifCond .eq 12, 3) := by decide +kernel
theorem dX7_relay_27 : decode cX7_relay 27 = .ok (.iload_n 3, 1) := by decide +kernel
theorem dX7_relay_28 : decode cX7_relay 28 = .ok (.ifCond .lt 8, 3) := by decide +kernel
theorem dX7_relay_31 : decode cX7_relay 31 = .ok (.iload_n 3, 1) := by decide +kernel
theorem dX7_relay_32 : decode cX7_relay 32 = .ok (.iconst 1, 1) := by decide +kernel
theorem dX7_relay_33 : decode cX7_relay 33 = .ok (.if_icmp .le 5, 3) := by decide +kernel
theorem dX7_relay_36 : decode cX7_relay 36 = .ok (.iconst (-1), 1) := by decide +kernel
theorem dX7_relay_37 : decode cX7_relay 37 = .ok (.ireturn, 1) := by decide +kernel
theorem dX7_relay_38 : decode cX7_relay 38 = .ok (.aload_n 0, 1) := by decide +kernel
theorem dX7_relay_39 : decode cX7_relay 39 = .ok (.getfield 30, 3) := by decide +kernel
theorem dX7_relay_42 : decode cX7_relay 42 = .ok (.iload_n 1, 1) := by decide +kernel
theorem dX7_relay_43 : decode cX7_relay 43 = .ok (.bipush 10, 2) := by decide +kernel
theorem dX7_relay_45 : decode cX7_relay 45 = .ok (.idiv, 1) := by decide +kernel
theorem dX7_relay_46 : decode cX7_relay 46 = .ok (.iload_n 1, 1) := by decide +kernel
theorem dX7_relay_47 : decode cX7_relay 47 = .ok (.bipush 10, 2) := by decide +kernel
theorem dX7_relay_49 : decode cX7_relay 49 = .ok (.irem, 1) := by decide +kernel
theorem dX7_relay_50 : decode cX7_relay 50 = .ok (.iload_n 2, 1) := by decide +kernel
theorem dX7_relay_51 : decode cX7_relay 51 = .ok (.bipush 10, 2) := by decide +kernel
theorem dX7_relay_53 : decode cX7_relay 53 = .ok (.idiv, 1) := by decide +kernel
theorem dX7_relay_54 : decode cX7_relay 54 = .ok (.iload_n 2, 1) := by decide +kernel
theorem dX7_relay_55 : decode cX7_relay 55 = .ok (.bipush 10, 2) := by decide +kernel
theorem dX7_relay_57 : decode cX7_relay 57 = .ok (.irem, 1) := by decide +kernel
theorem dX7_relay_58 : decode cX7_relay 58 = .ok (.invokevirtual 209, 3) := by decide +kernel
theorem dX7_relay_61 : decode cX7_relay 61 = .ok (.ifCond .ne 6, 3) := by decide +kernel
theorem dX7_relay_64 : decode cX7_relay 64 = .ok (.bipush (-2), 2) := by decide +kernel
theorem dX7_relay_66 : decode cX7_relay 66 = .ok (.ireturn, 1) := by decide +kernel
theorem dX7_relay_67 : decode cX7_relay 67 = .ok (.iload_n 3, 1) := by decide +kernel
theorem dX7_relay_68 : decode cX7_relay 68 = .ok (.ifCond .ne 13, 3) := by decide +kernel
theorem dX7_relay_71 : decode cX7_relay 71 = .ok (.aload_n 0, 1) := by decide +kernel
theorem dX7_relay_72 : decode cX7_relay 72 = .ok (.getfield 30, 3) := by decide +kernel
theorem dX7_relay_75 : decode cX7_relay 75 = .ok (.getfield 213, 3) := by decide +kernel
theorem dX7_relay_78 : decode cX7_relay 78 = .ok (.goto 10, 3) := by decide +kernel
theorem dX7_relay_81 : decode cX7_relay 81 = .ok (.aload_n 0, 1) := by decide +kernel
theorem dX7_relay_82 : decode cX7_relay 82 = .ok (.getfield 30, 3) := by decide +kernel
theorem dX7_relay_85 : decode cX7_relay 85 = .ok (.getfield 216, 3) := by decide +kernel
theorem dX7_relay_88 : decode cX7_relay 88 = .ok (.ireturn, 1) := by decide +kernel
set_option maxRecDepth 100000 in
theorem ggX7_safe_X7_isPair : GoodIn wsX7_safe wsX7_isPair := goodIn_r _ [9, 10, 11, 142, 143, 144, 145, 146, 147, 148, 149, 150, 151, 152, 153, 154, 155, 156, 157, 158, 159, 160, 161, 162, 163] rfl gd_wsX7_isPair
set_option maxRecDepth 100000 in
theorem gX7_safe_X7_isPair : GoodIn wsX7_safe (wsV RX7 147 RX7 yX7_isPair wsX7_isPair) := goodIn_app (goodIn_r _ [5, 6, 7, 8] rfl (by decide +kernel)) ggX7_safe_X7_isPair
set_option maxRecDepth 100000 in
theorem ggX7_safe_X7_isStep : GoodIn wsX7_safe wsX7_isStep := goodIn_r _ [14, 15] rfl gd_wsX7_isStep
set_option maxRecDepth 100000 in
theorem gX7_safe_X7_isStep : GoodIn wsX7_safe (va_wsS RX7 141 yX7_isStep wsX7_isStep) := goodIn_app (goodIn_r _ [12, 13, 8] rfl (by decide +kernel)) ggX7_safe_X7_isStep
set_option maxRecDepth 100000 in
theorem ggX7_safe_X6_fewestSteps : GoodIn wsX7_safe wsX6_fewestSteps := goodIn_r _ [20, 21, 22, 23, 24, 25, 26, 27, 28, 29, 30, 31, 32, 33, 34, 35, 36, 37, 38, 39, 40, 41, 42, 8, 43, 44, 45, 46, 47, 48, 49, 50, 51, 52, 53, 54, 55, 56, 57, 58, 59, 60, 61, 62, 63, 64, 65, 66, 67, 68, 69, 70, 71, 72, 73, 74, 75, 76, 77, 78, 79, 80, 81, 82, 83, 84, 85, 86, 87, 88, 89, 90, 91, 92, 93, 94, 95, 96, 97, 98, 99, 100, 101, 102, 103, 104, 105, 106, 107, 108, 109, 110, 111, 112, 113, 114, 115, 116, 117, 118, 119, 164, 165, 166, 167, 168, 169, 170, 171, 172, 173, 174, 175, 176, 177, 153, 154, 155, 156, 157, 158, 159, 160, 161, 162, 163, 178, 179, 180, 181, 182, 183, 184, 185, 186, 187, 188, 189] rfl gd_wsX6_fewestSteps
set_option maxRecDepth 100000 in
theorem gX7_safe_X6_fewestSteps : GoodIn wsX7_safe (wsV RX7 190 RX6 yX6_fewestSteps wsX6_fewestSteps) := goodIn_app (goodIn_r _ [16, 17, 18, 19] rfl (by decide +kernel)) ggX7_safe_X6_fewestSteps
set_option maxRecDepth 20000 in
theorem gd_wsX6_handsOnWay : wsX6_handsOnWay.all goodWord = true := by decide +kernel
set_option maxRecDepth 100000 in
theorem ggX7_safe_X6_handsOnWay : GoodIn wsX7_safe wsX6_handsOnWay := goodIn_r _ [123, 124, 125, 126, 127, 19, 128, 21, 129, 130, 131, 132, 133, 134, 22, 135, 136, 137, 68, 65, 69, 138, 33, 34, 26, 35, 36, 164, 165, 166, 167, 168, 169, 170, 171, 172, 173, 174, 175, 176, 177, 153, 154, 155, 156, 157, 158, 159, 160, 161, 162, 163] rfl gd_wsX6_handsOnWay
set_option maxRecDepth 100000 in
theorem gX7_safe_X6_handsOnWay : GoodIn wsX7_safe (wsV RX7 223 RX6 yX6_handsOnWay wsX6_handsOnWay) := goodIn_app (goodIn_r _ [120, 121, 122, 19] rfl (by decide +kernel)) ggX7_safe_X6_handsOnWay
set_option maxRecDepth 100000 in
theorem ggX7_safe_X7_lowest : GoodIn wsX7_safe wsX7_lowest := goodIn_r _ [141, 44, 45, 8, 46] rfl gd_wsX7_lowest
set_option maxRecDepth 100000 in
theorem gX7_safe_X7_lowest : GoodIn wsX7_safe (va_wsS RX7 156 yX7_lowest wsX7_lowest) := goodIn_app (goodIn_r _ [139, 140, 8] rfl (by decide +kernel)) ggX7_safe_X7_lowest
theorem dX7_safe_0 : decode cX7_safe 0 = .ok (.aload_n 0, 1) := by decide +kernel
theorem dX7_safe_1 : decode cX7_safe 1 = .ok (.iload_n 1, 1) := by decide +kernel
theorem dX7_safe_2 : decode cX7_safe 2 = .ok (.invokevirtual 147, 3) := by decide +kernel
theorem dX7_safe_5 : decode cX7_safe 5 = .ok (.ifCond .eq 30, 3) := by decide +kernel
theorem dX7_safe_8 : decode cX7_safe 8 = .ok (.iload_n 2, 1) := by decide +kernel
theorem dX7_safe_9 : decode cX7_safe 9 = .ok (.invokestatic 141, 3) := by decide +kernel
theorem dX7_safe_12 : decode cX7_safe 12 = .ok (.ifCond .eq 23, 3) := by decide +kernel
theorem dX7_safe_15 : decode cX7_safe 15 = .ok (.iload_n 3, 1) := by decide +kernel
theorem dX7_safe_16 : decode cX7_safe 16 = .ok (.bipush 10, 2) := by decide +kernel
theorem dX7_safe_18 : decode cX7_safe 18 = .ok (.if_icmp .lt 17, 3) := by decide +kernel
theorem dX7_safe_21 : decode cX7_safe 21 = .ok (.iload_n 3, 1) := by decide +kernel
theorem dX7_safe_22 : decode cX7_safe 22 = .ok (.bipush 21, 2) := by decide +kernel
theorem dX7_safe_24 : decode cX7_safe 24 = .ok (.if_icmp .gt 11, 3) := by decide +kernel
theorem dX7_safe_27 : decode cX7_safe 27 = .ok (.iload_n 3, 1) := by decide +kernel
theorem dX7_safe_28 : decode cX7_safe 28 = .ok (.bipush 10, 2) := by decide +kernel
theorem dX7_safe_30 : decode cX7_safe 30 = .ok (.irem, 1) := by decide +kernel
theorem dX7_safe_31 : decode cX7_safe 31 = .ok (.iconst 1, 1) := by decide +kernel
theorem dX7_safe_32 : decode cX7_safe 32 = .ok (.if_icmp .le 7, 3) := by decide +kernel
theorem dX7_safe_35 : decode cX7_safe 35 = .ok (.ldc2_w 221, 3) := by decide +kernel
theorem dX7_safe_38 : decode cX7_safe 38 = .ok (.lreturn, 1) := by decide +kernel
theorem dX7_safe_39 : decode cX7_safe 39 = .ok (.aload_n 0, 1) := by decide +kernel
theorem dX7_safe_40 : decode cX7_safe 40 = .ok (.getfield 30, 3) := by decide +kernel
theorem dX7_safe_43 : decode cX7_safe 43 = .ok (.iload_n 1, 1) := by decide +kernel
theorem dX7_safe_44 : decode cX7_safe 44 = .ok (.bipush 10, 2) := by decide +kernel
theorem dX7_safe_46 : decode cX7_safe 46 = .ok (.idiv, 1) := by decide +kernel
theorem dX7_safe_47 : decode cX7_safe 47 = .ok (.iload_n 1, 1) := by decide +kernel
theorem dX7_safe_48 : decode cX7_safe 48 = .ok (.bipush 10, 2) := by decide +kernel
theorem dX7_safe_50 : decode cX7_safe 50 = .ok (.irem, 1) := by decide +kernel
theorem dX7_safe_51 : decode cX7_safe 51 = .ok (.iload_n 2, 1) := by decide +kernel
theorem dX7_safe_52 : decode cX7_safe 52 = .ok (.invokevirtual 190, 3) := by decide +kernel
theorem dX7_safe_55 : decode cX7_safe 55 = .ok (.istore 4, 2) := by decide +kernel
theorem dX7_safe_57 : decode cX7_safe 57 = .ok (.iload 4, 2) := by decide +kernel
theorem dX7_safe_59 : decode cX7_safe 59 = .ok (.bipush (-2), 2) := by decide +kernel
theorem dX7_safe_61 : decode cX7_safe 61 = .ok (.if_icmp .ne 7, 3) := by decide +kernel
theorem dX7_safe_64 : decode cX7_safe 64 = .ok (.ldc2_w 221, 3) := by decide +kernel
theorem dX7_safe_67 : decode cX7_safe 67 = .ok (.lreturn, 1) := by decide +kernel
theorem dX7_safe_68 : decode cX7_safe 68 = .ok (.aload_n 0, 1) := by decide +kernel
theorem dX7_safe_69 : decode cX7_safe 69 = .ok (.getfield 30, 3) := by decide +kernel
theorem dX7_safe_72 : decode cX7_safe 72 = .ok (.iload_n 1, 1) := by decide +kernel
theorem dX7_safe_73 : decode cX7_safe 73 = .ok (.bipush 10, 2) := by decide +kernel
theorem dX7_safe_75 : decode cX7_safe 75 = .ok (.idiv, 1) := by decide +kernel
theorem dX7_safe_76 : decode cX7_safe 76 = .ok (.iload_n 1, 1) := by decide +kernel
theorem dX7_safe_77 : decode cX7_safe 77 = .ok (.bipush 10, 2) := by decide +kernel
theorem dX7_safe_79 : decode cX7_safe 79 = .ok (.irem, 1) := by decide +kernel
theorem dX7_safe_80 : decode cX7_safe 80 = .ok (.iload 4, 2) := by decide +kernel
theorem dX7_safe_82 : decode cX7_safe 82 = .ok (.invokevirtual 223, 3) := by decide +kernel
theorem dX7_safe_85 : decode cX7_safe 85 = .ok (.istore 5, 2) := by decide +kernel
theorem dX7_safe_87 : decode cX7_safe 87 = .ok (.lconst 1, 1) := by decide +kernel
theorem dX7_safe_88 : decode cX7_safe 88 = .ok (.lstore 6, 2) := by decide +kernel
theorem dX7_safe_90 : decode cX7_safe 90 = .ok (.lconst 1, 1) := by decide +kernel
theorem dX7_safe_91 : decode cX7_safe 91 = .ok (.lstore 8, 2) := by decide +kernel
theorem dX7_safe_93 : decode cX7_safe 93 = .ok (.iconst 0, 1) := by decide +kernel
theorem dX7_safe_94 : decode cX7_safe 94 = .ok (.istore 10, 2) := by decide +kernel
theorem dX7_safe_96 : decode cX7_safe 96 = .ok (.iload 10, 2) := by decide +kernel
theorem dX7_safe_98 : decode cX7_safe 98 = .ok (.iload 5, 2) := by decide +kernel
theorem dX7_safe_100 : decode cX7_safe 100 = .ok (.if_icmp .ge 30, 3) := by decide +kernel
theorem dX7_safe_103 : decode cX7_safe 103 = .ok (.lload 6, 2) := by decide +kernel
theorem dX7_safe_105 : decode cX7_safe 105 = .ok (.bipush 12, 2) := by decide +kernel
theorem dX7_safe_107 : decode cX7_safe 107 = .ok (.aload_n 0, 1) := by decide +kernel
theorem dX7_safe_108 : decode cX7_safe 108 = .ok (.getfield 226, 3) := by decide +kernel
theorem dX7_safe_111 : decode cX7_safe 111 = .ok (.isub, 1) := by decide +kernel
theorem dX7_safe_112 : decode cX7_safe 112 = .ok (.i2l, 1) := by decide +kernel
theorem dX7_safe_113 : decode cX7_safe 113 = .ok (.lmul, 1) := by decide +kernel
theorem dX7_safe_114 : decode cX7_safe 114 = .ok (.lstore 6, 2) := by decide +kernel
theorem dX7_safe_116 : decode cX7_safe 116 = .ok (.lload 8, 2) := by decide +kernel
theorem dX7_safe_118 : decode cX7_safe 118 = .ok (.ldc2_w 229, 3) := by decide +kernel
theorem dX7_safe_121 : decode cX7_safe 121 = .ok (.lmul, 1) := by decide +kernel
theorem dX7_safe_122 : decode cX7_safe 122 = .ok (.lstore 8, 2) := by decide +kernel
theorem dX7_safe_124 : decode cX7_safe 124 = .ok (.iinc 10 1, 3) := by decide +kernel
theorem dX7_safe_127 : decode cX7_safe 127 = .ok (.goto (-31), 3) := by decide +kernel
theorem dX7_safe_130 : decode cX7_safe 130 = .ok (.iload_n 3, 1) := by decide +kernel
theorem dX7_safe_131 : decode cX7_safe 131 = .ok (.bipush 10, 2) := by decide +kernel
theorem dX7_safe_133 : decode cX7_safe 133 = .ok (.idiv, 1) := by decide +kernel
theorem dX7_safe_134 : decode cX7_safe 134 = .ok (.iconst 2, 1) := by decide +kernel
theorem dX7_safe_135 : decode cX7_safe 135 = .ok (.if_icmp .ne 27, 3) := by decide +kernel
theorem dX7_safe_138 : decode cX7_safe 138 = .ok (.lload 8, 2) := by decide +kernel
theorem dX7_safe_140 : decode cX7_safe 140 = .ok (.lload 6, 2) := by decide +kernel
theorem dX7_safe_142 : decode cX7_safe 142 = .ok (.lsub, 1) := by decide +kernel
theorem dX7_safe_143 : decode cX7_safe 143 = .ok (.lstore 10, 2) := by decide +kernel
theorem dX7_safe_145 : decode cX7_safe 145 = .ok (.lload 8, 2) := by decide +kernel
theorem dX7_safe_147 : decode cX7_safe 147 = .ok (.lload 8, 2) := by decide +kernel
theorem dX7_safe_149 : decode cX7_safe 149 = .ok (.lmul, 1) := by decide +kernel
theorem dX7_safe_150 : decode cX7_safe 150 = .ok (.lstore 8, 2) := by decide +kernel
theorem dX7_safe_152 : decode cX7_safe 152 = .ok (.lload 8, 2) := by decide +kernel
theorem dX7_safe_154 : decode cX7_safe 154 = .ok (.lload 10, 2) := by decide +kernel
theorem dX7_safe_156 : decode cX7_safe 156 = .ok (.lload 10, 2) := by decide +kernel
theorem dX7_safe_158 : decode cX7_safe 158 = .ok (.lmul, 1) := by decide +kernel
theorem dX7_safe_159 : decode cX7_safe 159 = .ok (.lsub, 1) := by decide +kernel
theorem dX7_safe_160 : decode cX7_safe 160 = .ok (.lstore 6, 2) := by decide +kernel
theorem dX7_safe_162 : decode cX7_safe 162 = .ok (.lload 6, 2) := by decide +kernel
theorem dX7_safe_164 : decode cX7_safe 164 = .ok (.lload 8, 2) := by decide +kernel
theorem dX7_safe_166 : decode cX7_safe 166 = .ok (.iload_n 3, 1) := by decide +kernel
theorem dX7_safe_167 : decode cX7_safe 167 = .ok (.bipush 10, 2) := by decide +kernel
theorem dX7_safe_169 : decode cX7_safe 169 = .ok (.irem, 1) := by decide +kernel
theorem dX7_safe_170 : decode cX7_safe 170 = .ok (.invokestatic 156, 3) := by decide +kernel
theorem dX7_safe_173 : decode cX7_safe 173 = .ok (.lreturn, 1) := by decide +kernel
set_option maxRecDepth 20000 in
theorem gd_wsX7_refusalOfBook : wsX7_refusalOfBook.all goodWord = true := by decide +kernel
set_option maxRecDepth 100000 in
theorem ggX7_judge_X7_refusalOfBook : GoodIn wsX7_judge wsX7_refusalOfBook := goodIn_r _ [6, 1, 7, 8, 5, 9, 10, 11, 12, 13, 14, 15, 16, 17, 18, 19, 20, 97, 98, 99, 100, 101, 102, 103, 104, 105, 106, 107, 108, 109, 110, 111] rfl gd_wsX7_refusalOfBook
set_option maxRecDepth 100000 in
theorem gX7_judge_X7_refusalOfBook : GoodIn wsX7_judge (wsV RX7 231 RX7 yX7_refusalOfBook wsX7_refusalOfBook) := goodIn_app (goodIn_r _ [2, 3, 4, 5] rfl (by decide +kernel)) ggX7_judge_X7_refusalOfBook
set_option maxRecDepth 20000 in
theorem gd_wsX7_firstWrong : wsX7_firstWrong.all goodWord = true := by decide +kernel
set_option maxRecDepth 100000 in
theorem ggX7_judge_X7_firstWrong : GoodIn wsX7_judge wsX7_firstWrong := goodIn_r _ [24, 25, 26, 27, 28, 29, 5, 30, 31, 32, 33, 34, 35, 36, 37, 38, 39, 40, 41, 42, 43, 44, 45, 46, 47, 48, 49, 50, 51, 52, 53, 54, 55, 56, 57, 58, 59, 60, 61, 62, 63, 64, 65, 66, 67, 68, 69, 70, 71, 72, 73, 74, 75, 76, 77, 78, 79, 80, 81, 82, 83, 84, 85, 86, 87, 88, 89, 90, 91, 92, 93, 94, 95, 96, 108, 109, 110, 111, 97, 98, 99, 100, 101, 102, 103, 104, 105, 106, 107, 112, 113, 114, 115, 116, 117, 118, 119, 120, 121, 122, 123, 124, 125, 126, 127, 128, 129, 130, 131, 132, 133, 134] rfl gd_wsX7_firstWrong
set_option maxRecDepth 100000 in
theorem gX7_judge_X7_firstWrong : GoodIn wsX7_judge (wsV RX7 234 RX7 yX7_firstWrong wsX7_firstWrong) := goodIn_app (goodIn_r _ [21, 22, 23, 5] rfl (by decide +kernel)) ggX7_judge_X7_firstWrong
theorem dX7_judge_0 : decode cX7_judge 0 = .ok (.aload_n 0, 1) := by decide +kernel
theorem dX7_judge_1 : decode cX7_judge 1 = .ok (.iload_n 1, 1) := by decide +kernel
theorem dX7_judge_2 : decode cX7_judge 2 = .ok (.invokevirtual 231, 3) := by decide +kernel
theorem dX7_judge_5 : decode cX7_judge 5 = .ok (.istore_n 2, 1) := by decide +kernel
theorem dX7_judge_6 : decode cX7_judge 6 = .ok (.iload_n 2, 1) := by decide +kernel
theorem dX7_judge_7 : decode cX7_judge 7 = .ok (.ifCond .eq 7, 3) := by decide +kernel
theorem dX7_judge_10 : decode cX7_judge 10 = .ok (.iload_n 2, 1) := by decide +kernel
theorem dX7_judge_11 : decode cX7_judge 11 = .ok (.goto 13, 3) := by decide +kernel
theorem dX7_judge_14 : decode cX7_judge 14 = .ok (.aload_n 0, 1) := by decide +kernel
theorem dX7_judge_15 : decode cX7_judge 15 = .ok (.aload_n 0, 1) := by decide +kernel
theorem dX7_judge_16 : decode cX7_judge 16 = .ok (.getfield 60, 3) := by decide +kernel
theorem dX7_judge_19 : decode cX7_judge 19 = .ok (.iload_n 1, 1) := by decide +kernel
theorem dX7_judge_20 : decode cX7_judge 20 = .ok (.aaload, 1) := by decide +kernel
theorem dX7_judge_21 : decode cX7_judge 21 = .ok (.invokevirtual 234, 3) := by decide +kernel
theorem dX7_judge_24 : decode cX7_judge 24 = .ok (.ireturn, 1) := by decide +kernel
set_option maxRecDepth 100000 in
theorem ggX7_stepped_X7_isShelf : GoodIn wsX7_stepped wsX7_isShelf := goodIn_r _ [5] rfl gd_wsX7_isShelf
set_option maxRecDepth 100000 in
theorem gX7_stepped_X7_isShelf : GoodIn wsX7_stepped (va_wsS RX7 77 yX7_isShelf wsX7_isShelf) := goodIn_app (goodIn_r _ [2, 3, 4] rfl (by decide +kernel)) ggX7_stepped_X7_isShelf
set_option maxRecDepth 100000 in
theorem ggX7_stepped_X7_isWorldNumber : GoodIn wsX7_stepped wsX7_isWorldNumber := goodIn_r _ [9, 10, 11, 117, 118, 119, 120, 121, 122, 123, 124, 125, 126, 127, 128, 129, 130, 131, 132, 133, 134, 135, 136, 137, 138] rfl gd_wsX7_isWorldNumber
set_option maxRecDepth 100000 in
theorem gX7_stepped_X7_isWorldNumber : GoodIn wsX7_stepped (wsV RX7 122 RX7 yX7_isWorldNumber wsX7_isWorldNumber) := goodIn_app (goodIn_r _ [6, 7, 8, 4] rfl (by decide +kernel)) ggX7_stepped_X7_isWorldNumber
set_option maxRecDepth 100000 in
theorem ggX7_stepped_X7_refusalOfBook : GoodIn wsX7_stepped wsX7_refusalOfBook := goodIn_r _ [15, 1, 2, 3, 4, 5, 16, 17, 18, 19, 20, 21, 22, 23, 24, 25, 26, 117, 118, 119, 120, 121, 122, 123, 124, 125, 126, 127, 139, 140, 141, 142] rfl gd_wsX7_refusalOfBook
set_option maxRecDepth 100000 in
theorem gX7_stepped_X7_refusalOfBook : GoodIn wsX7_stepped (wsV RX7 231 RX7 yX7_refusalOfBook wsX7_refusalOfBook) := goodIn_app (goodIn_r _ [12, 13, 14, 4] rfl (by decide +kernel)) ggX7_stepped_X7_refusalOfBook
set_option maxRecDepth 20000 in
theorem gd_wsX7_startsThatFit : wsX7_startsThatFit.all goodWord = true := by decide +kernel
set_option maxRecDepth 100000 in
theorem ggX7_stepped_X7_startsThatFit : GoodIn wsX7_stepped wsX7_startsThatFit := goodIn_r _ [30, 10, 31, 32, 33, 34, 35, 4, 36, 37, 38, 39, 40, 41, 42, 43, 44, 45, 46, 11, 47, 48, 49, 50, 51, 52, 53, 54, 55, 56, 57, 58, 59, 60, 61, 62, 63, 64, 65, 66, 67, 68, 69, 70, 71, 72, 73, 74, 75, 76, 77, 78, 79, 80, 81, 82, 83, 84, 85, 86, 87, 88, 89, 90, 91, 92, 93, 94, 95, 96, 97, 98, 99, 100, 101, 102, 103, 104, 105, 106, 117, 118, 119, 120, 121, 122, 123, 124, 125, 126, 127, 128, 129, 130, 131, 132, 133, 134, 135, 136, 137, 138, 139, 140, 141, 142, 143, 144, 145, 146, 147, 148, 149, 150, 151, 152, 153, 154] rfl gd_wsX7_startsThatFit
set_option maxRecDepth 100000 in
theorem gX7_stepped_X7_startsThatFit : GoodIn wsX7_stepped (wsV RX7 238 RX7 yX7_startsThatFit wsX7_startsThatFit) := goodIn_app (goodIn_r _ [27, 28, 29, 4] rfl (by decide +kernel)) ggX7_stepped_X7_startsThatFit
set_option maxRecDepth 20000 in
theorem gd_wsJ6_bitCount_0f7a4 : wsJ6_bitCount_0f7a4.all goodWord = true := by decide +kernel
set_option maxRecDepth 100000 in
theorem ggX7_stepped_J6_bitCount_0f7a4 : GoodIn wsX7_stepped wsJ6_bitCount_0f7a4 := goodIn_r _ [110, 111, 112, 113] rfl gd_wsJ6_bitCount_0f7a4
set_option maxRecDepth 100000 in
theorem gX7_stepped_J6_bitCount_0f7a4 : GoodIn wsX7_stepped (va_wsS RX7 242 yJ6_bitCount_0f7a4 wsJ6_bitCount_0f7a4) := goodIn_app (goodIn_r _ [107, 108, 109] rfl (by decide +kernel)) ggX7_stepped_J6_bitCount_0f7a4
set_option maxRecDepth 20000 in
theorem gd_wsX7_lowestBit : wsX7_lowestBit.all goodWord = true := by decide +kernel
set_option maxRecDepth 100000 in
theorem ggX7_stepped_X7_lowestBit : GoodIn wsX7_stepped wsX7_lowestBit := goodIn_r _ [116, 107, 108, 109, 110, 111, 112, 113] rfl gd_wsX7_lowestBit
set_option maxRecDepth 100000 in
theorem gX7_stepped_X7_lowestBit : GoodIn wsX7_stepped (va_wsS RX7 247 yX7_lowestBit wsX7_lowestBit) := goodIn_app (goodIn_r _ [114, 115, 4] rfl (by decide +kernel)) ggX7_stepped_X7_lowestBit
theorem dX7_stepped_0 : decode cX7_stepped 0 = .ok (.iload_n 1, 1) := by decide +kernel
theorem dX7_stepped_1 : decode cX7_stepped 1 = .ok (.invokestatic 77, 3) := by decide +kernel
theorem dX7_stepped_4 : decode cX7_stepped 4 = .ok (.ifCond .eq 20, 3) := by decide +kernel
theorem dX7_stepped_7 : decode cX7_stepped 7 = .ok (.aload_n 0, 1) := by decide +kernel
theorem dX7_stepped_8 : decode cX7_stepped 8 = .ok (.iload_n 2, 1) := by decide +kernel
theorem dX7_stepped_9 : decode cX7_stepped 9 = .ok (.invokevirtual 122, 3) := by decide +kernel
theorem dX7_stepped_12 : decode cX7_stepped 12 = .ok (.ifCond .eq 12, 3) := by decide +kernel
theorem dX7_stepped_15 : decode cX7_stepped 15 = .ok (.iload_n 3, 1) := by decide +kernel
theorem dX7_stepped_16 : decode cX7_stepped 16 = .ok (.ifCond .lt 8, 3) := by decide +kernel
theorem dX7_stepped_19 : decode cX7_stepped 19 = .ok (.iload_n 3, 1) := by decide +kernel
theorem dX7_stepped_20 : decode cX7_stepped 20 = .ok (.iconst 1, 1) := by decide +kernel
theorem dX7_stepped_21 : decode cX7_stepped 21 = .ok (.if_icmp .le 5, 3) := by decide +kernel
theorem dX7_stepped_24 : decode cX7_stepped 24 = .ok (.iconst (-1), 1) := by decide +kernel
theorem dX7_stepped_25 : decode cX7_stepped 25 = .ok (.ireturn, 1) := by decide +kernel
theorem dX7_stepped_26 : decode cX7_stepped 26 = .ok (.aload_n 0, 1) := by decide +kernel
theorem dX7_stepped_27 : decode cX7_stepped 27 = .ok (.iload_n 1, 1) := by decide +kernel
theorem dX7_stepped_28 : decode cX7_stepped 28 = .ok (.invokevirtual 231, 3) := by decide +kernel
theorem dX7_stepped_31 : decode cX7_stepped 31 = .ok (.istore 4, 2) := by decide +kernel
theorem dX7_stepped_33 : decode cX7_stepped 33 = .ok (.iload 4, 2) := by decide +kernel
theorem dX7_stepped_35 : decode cX7_stepped 35 = .ok (.ifCond .eq 6, 3) := by decide +kernel
theorem dX7_stepped_38 : decode cX7_stepped 38 = .ok (.iload 4, 2) := by decide +kernel
theorem dX7_stepped_40 : decode cX7_stepped 40 = .ok (.ireturn, 1) := by decide +kernel
theorem dX7_stepped_41 : decode cX7_stepped 41 = .ok (.aload_n 0, 1) := by decide +kernel
theorem dX7_stepped_42 : decode cX7_stepped 42 = .ok (.aload_n 0, 1) := by decide +kernel
theorem dX7_stepped_43 : decode cX7_stepped 43 = .ok (.getfield 60, 3) := by decide +kernel
theorem dX7_stepped_46 : decode cX7_stepped 46 = .ok (.iload_n 1, 1) := by decide +kernel
theorem dX7_stepped_47 : decode cX7_stepped 47 = .ok (.aaload, 1) := by decide +kernel
theorem dX7_stepped_48 : decode cX7_stepped 48 = .ok (.iload_n 2, 1) := by decide +kernel
theorem dX7_stepped_49 : decode cX7_stepped 49 = .ok (.invokevirtual 238, 3) := by decide +kernel
theorem dX7_stepped_52 : decode cX7_stepped 52 = .ok (.istore 5, 2) := by decide +kernel
theorem dX7_stepped_54 : decode cX7_stepped 54 = .ok (.iload_n 3, 1) := by decide +kernel
theorem dX7_stepped_55 : decode cX7_stepped 55 = .ok (.ifCond .ne 9, 3) := by decide +kernel
theorem dX7_stepped_58 : decode cX7_stepped 58 = .ok (.iload 5, 2) := by decide +kernel
theorem dX7_stepped_60 : decode cX7_stepped 60 = .ok (.invokestatic 242, 3) := by decide +kernel
theorem dX7_stepped_63 : decode cX7_stepped 63 = .ok (.ireturn, 1) := by decide +kernel
theorem dX7_stepped_64 : decode cX7_stepped 64 = .ok (.iload 5, 2) := by decide +kernel
theorem dX7_stepped_66 : decode cX7_stepped 66 = .ok (.ifCond .ne 8, 3) := by decide +kernel
theorem dX7_stepped_69 : decode cX7_stepped 69 = .ok (.bipush (-2), 2) := by decide +kernel
theorem dX7_stepped_71 : decode cX7_stepped 71 = .ok (.goto 8, 3) := by decide +kernel
theorem dX7_stepped_74 : decode cX7_stepped 74 = .ok (.iload 5, 2) := by decide +kernel
theorem dX7_stepped_76 : decode cX7_stepped 76 = .ok (.invokestatic 247, 3) := by decide +kernel
theorem dX7_stepped_79 : decode cX7_stepped 79 = .ok (.ireturn, 1) := by decide +kernel
set_option maxRecDepth 100000 in
theorem ggX7_whose_X7_refusalOfBook : GoodIn wsX7_whose wsX7_refusalOfBook := goodIn_r _ [8, 3, 9, 10, 7, 11, 12, 13, 14, 15, 16, 17, 18, 19, 20, 21, 22, 104, 105, 106, 107, 108, 109, 110, 111, 112, 113, 114, 126, 127, 128, 129] rfl gd_wsX7_refusalOfBook
set_option maxRecDepth 100000 in
theorem gX7_whose_X7_refusalOfBook : GoodIn wsX7_whose (wsV RX7 231 RX7 yX7_refusalOfBook wsX7_refusalOfBook) := goodIn_app (goodIn_r _ [4, 5, 6, 7] rfl (by decide +kernel)) ggX7_whose_X7_refusalOfBook
set_option maxRecDepth 100000 in
theorem ggX7_whose_X5_phase : GoodIn wsX7_whose wsX5_phase := goodIn_r _ [27, 28, 29, 30, 7, 31, 115, 116, 117, 118, 119, 120, 121, 122, 123, 124, 125] rfl gd_wsX5_phase
set_option maxRecDepth 100000 in
theorem gX7_whose_X5_phase : GoodIn wsX7_whose (wsV RX7 250 RX5 yX5_phase wsX5_phase) := goodIn_app (goodIn_r _ [23, 24, 25, 26] rfl (by decide +kernel)) ggX7_whose_X5_phase
set_option maxRecDepth 100000 in
theorem ggX7_whose_X7_startsThatFit : GoodIn wsX7_whose wsX7_startsThatFit := goodIn_r _ [35, 1, 36, 37, 38, 39, 40, 7, 41, 42, 43, 44, 45, 46, 47, 48, 49, 50, 51, 2, 52, 53, 54, 26, 55, 56, 57, 58, 59, 60, 61, 62, 63, 24, 25, 27, 28, 29, 30, 31, 64, 65, 66, 67, 68, 69, 70, 71, 72, 73, 74, 75, 76, 77, 78, 79, 80, 81, 82, 83, 84, 85, 86, 87, 88, 89, 90, 91, 92, 93, 94, 95, 96, 97, 98, 99, 100, 101, 102, 103, 104, 105, 106, 107, 108, 109, 110, 111, 112, 113, 114, 115, 116, 117, 118, 119, 120, 121, 122, 123, 124, 125, 126, 127, 128, 129, 130, 131, 132, 133, 134, 135, 136, 137, 138, 139, 140, 141] rfl gd_wsX7_startsThatFit
set_option maxRecDepth 100000 in
theorem gX7_whose_X7_startsThatFit : GoodIn wsX7_whose (wsV RX7 238 RX7 yX7_startsThatFit wsX7_startsThatFit) := goodIn_app (goodIn_r _ [32, 33, 34, 7] rfl (by decide +kernel)) ggX7_whose_X7_startsThatFit
theorem dX7_whose_0 : decode cX7_whose 0 = .ok (.aload_n 0, 1) := by decide +kernel
theorem dX7_whose_1 : decode cX7_whose 1 = .ok (.iload_n 1, 1) := by decide +kernel
theorem dX7_whose_2 : decode cX7_whose 2 = .ok (.invokevirtual 231, 3) := by decide +kernel
theorem dX7_whose_5 : decode cX7_whose 5 = .ok (.istore_n 2, 1) := by decide +kernel
theorem dX7_whose_6 : decode cX7_whose 6 = .ok (.iload_n 2, 1) := by decide +kernel
theorem dX7_whose_7 : decode cX7_whose 7 = .ok (.ifCond .eq 5, 3) := by decide +kernel
theorem dX7_whose_10 : decode cX7_whose 10 = .ok (.iload_n 2, 1) := by decide +kernel
theorem dX7_whose_11 : decode cX7_whose 11 = .ok (.ireturn, 1) := by decide +kernel
theorem dX7_whose_12 : decode cX7_whose 12 = .ok (.iconst 0, 1) := by decide +kernel
theorem dX7_whose_13 : decode cX7_whose 13 = .ok (.istore_n 3, 1) := by decide +kernel
theorem dX7_whose_14 : decode cX7_whose 14 = .ok (.iconst 0, 1) := by decide +kernel
theorem dX7_whose_15 : decode cX7_whose 15 = .ok (.istore 4, 2) := by decide +kernel
theorem dX7_whose_17 : decode cX7_whose 17 = .ok (.iload 4, 2) := by decide +kernel
theorem dX7_whose_19 : decode cX7_whose 19 = .ok (.aload_n 0, 1) := by decide +kernel
theorem dX7_whose_20 : decode cX7_whose 20 = .ok (.getfield 21, 3) := by decide +kernel
theorem dX7_whose_23 : decode cX7_whose 23 = .ok (.getfield 69, 3) := by decide +kernel
theorem dX7_whose_26 : decode cX7_whose 26 = .ok (.if_icmp .ge 50, 3) := by decide +kernel
theorem dX7_whose_29 : decode cX7_whose 29 = .ok (.iconst 1, 1) := by decide +kernel
theorem dX7_whose_30 : decode cX7_whose 30 = .ok (.aload_n 0, 1) := by decide +kernel
theorem dX7_whose_31 : decode cX7_whose 31 = .ok (.getfield 21, 3) := by decide +kernel
theorem dX7_whose_34 : decode cX7_whose 34 = .ok (.iload 4, 2) := by decide +kernel
theorem dX7_whose_36 : decode cX7_whose 36 = .ok (.iconst 0, 1) := by decide +kernel
theorem dX7_whose_37 : decode cX7_whose 37 = .ok (.invokevirtual 250, 3) := by decide +kernel
theorem dX7_whose_40 : decode cX7_whose 40 = .ok (.ishl, 1) := by decide +kernel
theorem dX7_whose_41 : decode cX7_whose 41 = .ok (.istore 5, 2) := by decide +kernel
theorem dX7_whose_43 : decode cX7_whose 43 = .ok (.aload_n 0, 1) := by decide +kernel
theorem dX7_whose_44 : decode cX7_whose 44 = .ok (.aload_n 0, 1) := by decide +kernel
theorem dX7_whose_45 : decode cX7_whose 45 = .ok (.getfield 60, 3) := by decide +kernel
theorem dX7_whose_48 : decode cX7_whose 48 = .ok (.iload_n 1, 1) := by decide +kernel
theorem dX7_whose_49 : decode cX7_whose 49 = .ok (.aaload, 1) := by decide +kernel
theorem dX7_whose_50 : decode cX7_whose 50 = .ok (.iload 4, 2) := by decide +kernel
theorem dX7_whose_52 : decode cX7_whose 52 = .ok (.invokevirtual 238, 3) := by decide +kernel
theorem dX7_whose_55 : decode cX7_whose 55 = .ok (.iload 5, 2) := by decide +kernel
theorem dX7_whose_57 : decode cX7_whose 57 = .ok (.iconst (-1), 1) := by decide +kernel
theorem dX7_whose_58 : decode cX7_whose 58 = .ok (.ixor, 1) := by decide +kernel
theorem dX7_whose_59 : decode cX7_whose 59 = .ok (.iand, 1) := by decide +kernel
theorem dX7_whose_60 : decode cX7_whose 60 = .ok (.ifCond .eq 10, 3) := by decide +kernel
theorem dX7_whose_63 : decode cX7_whose 63 = .ok (.iload_n 3, 1) := by decide +kernel
theorem dX7_whose_64 : decode cX7_whose 64 = .ok (.iconst 1, 1) := by decide +kernel
theorem dX7_whose_65 : decode cX7_whose 65 = .ok (.iload 4, 2) := by decide +kernel
theorem dX7_whose_67 : decode cX7_whose 67 = .ok (.ishl, 1) := by decide +kernel
theorem dX7_whose_68 : decode cX7_whose 68 = .ok (.ior, 1) := by decide +kernel
theorem dX7_whose_69 : decode cX7_whose 69 = .ok (.istore_n 3, 1) := by decide +kernel
theorem dX7_whose_70 : decode cX7_whose 70 = .ok (.iinc 4 1, 3) := by decide +kernel
theorem dX7_whose_73 : decode cX7_whose 73 = .ok (.goto (-56), 3) := by decide +kernel
theorem dX7_whose_76 : decode cX7_whose 76 = .ok (.iload_n 3, 1) := by decide +kernel
theorem dX7_whose_77 : decode cX7_whose 77 = .ok (.ireturn, 1) := by decide +kernel
set_option maxRecDepth 100000 in
theorem ggX7_send_X7_isPair : GoodIn wsX7_send wsX7_isPair := goodIn_r _ [7, 8, 9, 20, 21, 22, 23, 24, 25, 26, 27, 28, 29, 30, 38, 39, 40, 41, 42, 43, 44, 45, 46, 47, 48] rfl gd_wsX7_isPair
set_option maxRecDepth 100000 in
theorem gX7_send_X7_isPair : GoodIn wsX7_send (wsV RX7 147 RX7 yX7_isPair wsX7_isPair) := goodIn_app (goodIn_r _ [3, 4, 5, 6] rfl (by decide +kernel)) ggX7_send_X7_isPair
set_option maxRecDepth 20000 in
theorem gd_wsX1_add : wsX1_add.all goodWord = true := by decide +kernel
set_option maxRecDepth 100000 in
theorem ggX7_send_X1_add : GoodIn wsX7_send wsX1_add := goodIn_r _ [14, 15, 16, 17, 18, 19, 31, 32, 33, 34, 35, 36, 37] rfl gd_wsX1_add
set_option maxRecDepth 100000 in
theorem gX7_send_X1_add : GoodIn wsX7_send (wsV RX7 253 RX1 yX1_add wsX1_add) := goodIn_app (goodIn_r _ [10, 11, 12, 13] rfl (by decide +kernel)) ggX7_send_X1_add
theorem dX7_send_0 : decode cX7_send 0 = .ok (.aload_n 0, 1) := by decide +kernel
theorem dX7_send_1 : decode cX7_send 1 = .ok (.iload_n 1, 1) := by decide +kernel
theorem dX7_send_2 : decode cX7_send 2 = .ok (.invokevirtual 147, 3) := by decide +kernel
theorem dX7_send_5 : decode cX7_send 5 = .ok (.ifCond .ne 5, 3) := by decide +kernel
theorem dX7_send_8 : decode cX7_send 8 = .ok (.iconst (-1), 1) := by decide +kernel
theorem dX7_send_9 : decode cX7_send 9 = .ok (.ireturn, 1) := by decide +kernel
theorem dX7_send_10 : decode cX7_send 10 = .ok (.aload_n 0, 1) := by decide +kernel
theorem dX7_send_11 : decode cX7_send 11 = .ok (.getfield 44, 3) := by decide +kernel
theorem dX7_send_14 : decode cX7_send 14 = .ok (.getfield 118, 3) := by decide +kernel
theorem dX7_send_17 : decode cX7_send 17 = .ok (.bipush 10, 2) := by decide +kernel
theorem dX7_send_19 : decode cX7_send 19 = .ok (.if_icmp .ge 21, 3) := by decide +kernel
theorem dX7_send_22 : decode cX7_send 22 = .ok (.aload_n 0, 1) := by decide +kernel
theorem dX7_send_23 : decode cX7_send 23 = .ok (.getfield 44, 3) := by decide +kernel
theorem dX7_send_26 : decode cX7_send 26 = .ok (.iload_n 1, 1) := by decide +kernel
theorem dX7_send_27 : decode cX7_send 27 = .ok (.bipush 10, 2) := by decide +kernel
theorem dX7_send_29 : decode cX7_send 29 = .ok (.idiv, 1) := by decide +kernel
theorem dX7_send_30 : decode cX7_send 30 = .ok (.iload_n 1, 1) := by decide +kernel
theorem dX7_send_31 : decode cX7_send 31 = .ok (.bipush 10, 2) := by decide +kernel
theorem dX7_send_33 : decode cX7_send 33 = .ok (.irem, 1) := by decide +kernel
theorem dX7_send_34 : decode cX7_send 34 = .ok (.invokevirtual 253, 3) := by decide +kernel
theorem dX7_send_37 : decode cX7_send 37 = .ok (.goto 5, 3) := by decide +kernel
theorem dX7_send_40 : decode cX7_send 40 = .ok (.bipush (-3), 2) := by decide +kernel
theorem dX7_send_42 : decode cX7_send 42 = .ok (.ireturn, 1) := by decide +kernel
set_option maxRecDepth 20000 in
theorem gd_wsX1_arrived : wsX1_arrived.all goodWord = true := by decide +kernel
set_option maxRecDepth 100000 in
theorem ggX7_go_X1_arrived : GoodIn wsX7_go wsX1_arrived := goodIn_r _ [9, 10, 11, 173, 174, 175, 176, 177, 178, 179] rfl gd_wsX1_arrived
set_option maxRecDepth 100000 in
theorem gX7_go_X1_arrived : GoodIn wsX7_go (wsV RX7 258 RX1 yX1_arrived wsX1_arrived) := goodIn_app (goodIn_r _ [5, 6, 7, 8] rfl (by decide +kernel)) ggX7_go_X1_arrived
set_option maxRecDepth 20000 in
theorem gd_wsX7_carry : wsX7_carry.all goodWord = true := by decide +kernel
set_option maxRecDepth 100000 in
theorem ggX7_go_X7_carry : GoodIn wsX7_go wsX7_carry := goodIn_r _ [16, 2, 17, 18, 19, 4, 20, 21, 22, 23, 24, 25, 26, 27, 28, 29, 30, 31, 32, 33, 34, 35, 36, 37, 38, 39, 40, 41, 42, 43, 44, 45, 46, 47, 15, 48, 49, 50, 51, 52, 53, 54, 55, 56, 57, 58, 59, 60, 61, 62, 63, 64, 65, 66, 67, 68, 69, 70, 71, 72, 73, 74, 75, 76, 77, 78, 79, 80, 81, 82, 83, 84, 85, 86, 87, 88, 89, 90, 91, 92, 93, 94, 95, 96, 97, 98, 99, 100, 101, 102, 103, 104, 105, 106, 107, 108, 109, 110, 111, 112, 113, 114, 115, 116, 117, 118, 119, 120, 121, 122, 123, 124, 125, 126, 127, 128, 129, 130, 131, 132, 133, 134, 135, 136, 137, 138, 139, 140, 141, 142, 143, 144, 145, 146, 147, 148, 149, 150, 151, 1, 152, 153, 154, 155, 156, 8, 157, 158, 159, 160, 11, 161, 162, 163, 164, 165, 166, 167, 168, 169, 170, 171, 172, 173, 174, 175, 176, 177, 178, 179, 180, 181, 182, 183, 184, 185, 186, 187, 188, 189, 190, 191, 192, 193, 194, 195, 196, 197, 198, 199, 200, 201, 202, 203, 204, 205, 206, 207, 208, 209, 210, 211, 212, 213, 214, 215, 216] rfl gd_wsX7_carry
set_option maxRecDepth 100000 in
theorem gX7_go_X7_carry : GoodIn wsX7_go (wsV RX7 261 RX7 yX7_carry wsX7_carry) := goodIn_app (goodIn_r _ [12, 13, 14, 15] rfl (by decide +kernel)) ggX7_go_X7_carry
theorem dX7_go_0 : decode cX7_go 0 = .ok (.iload_n 2, 1) := by decide +kernel
theorem dX7_go_1 : decode cX7_go 1 = .ok (.iconst 1, 1) := by decide +kernel
theorem dX7_go_2 : decode cX7_go 2 = .ok (.if_icmp .lt 9, 3) := by decide +kernel
theorem dX7_go_5 : decode cX7_go 5 = .ok (.iload_n 2, 1) := by decide +kernel
theorem dX7_go_6 : decode cX7_go 6 = .ok (.bipush 99, 2) := by decide +kernel
theorem dX7_go_8 : decode cX7_go 8 = .ok (.if_icmp .le 5, 3) := by decide +kernel
theorem dX7_go_11 : decode cX7_go 11 = .ok (.iconst (-1), 1) := by decide +kernel
theorem dX7_go_12 : decode cX7_go 12 = .ok (.ireturn, 1) := by decide +kernel
theorem dX7_go_13 : decode cX7_go 13 = .ok (.aload_n 0, 1) := by decide +kernel
theorem dX7_go_14 : decode cX7_go 14 = .ok (.iload_n 1, 1) := by decide +kernel
theorem dX7_go_15 : decode cX7_go 15 = .ok (.putfield 255, 3) := by decide +kernel
theorem dX7_go_18 : decode cX7_go 18 = .ok (.aload_n 0, 1) := by decide +kernel
theorem dX7_go_19 : decode cX7_go 19 = .ok (.getfield 44, 3) := by decide +kernel
theorem dX7_go_22 : decode cX7_go 22 = .ok (.invokevirtual 258, 3) := by decide +kernel
theorem dX7_go_25 : decode cX7_go 25 = .ok (.istore_n 3, 1) := by decide +kernel
theorem dX7_go_26 : decode cX7_go 26 = .ok (.iconst 0, 1) := by decide +kernel
theorem dX7_go_27 : decode cX7_go 27 = .ok (.istore 4, 2) := by decide +kernel
theorem dX7_go_29 : decode cX7_go 29 = .ok (.iload 4, 2) := by decide +kernel
theorem dX7_go_31 : decode cX7_go 31 = .ok (.iload_n 2, 1) := by decide +kernel
theorem dX7_go_32 : decode cX7_go 32 = .ok (.if_icmp .ge 49, 3) := by decide +kernel
theorem dX7_go_35 : decode cX7_go 35 = .ok (.iconst 0, 1) := by decide +kernel
theorem dX7_go_36 : decode cX7_go 36 = .ok (.istore 5, 2) := by decide +kernel
theorem dX7_go_38 : decode cX7_go 38 = .ok (.iload 5, 2) := by decide +kernel
theorem dX7_go_40 : decode cX7_go 40 = .ok (.aload_n 0, 1) := by decide +kernel
theorem dX7_go_41 : decode cX7_go 41 = .ok (.getfield 44, 3) := by decide +kernel
theorem dX7_go_44 : decode cX7_go 44 = .ok (.getfield 118, 3) := by decide +kernel
theorem dX7_go_47 : decode cX7_go 47 = .ok (.if_icmp .ge 15, 3) := by decide +kernel
theorem dX7_go_50 : decode cX7_go 50 = .ok (.aload_n 0, 1) := by decide +kernel
theorem dX7_go_51 : decode cX7_go 51 = .ok (.iload 5, 2) := by decide +kernel
theorem dX7_go_53 : decode cX7_go 53 = .ok (.invokevirtual 261, 3) := by decide +kernel
theorem dX7_go_56 : decode cX7_go 56 = .ok (.iinc 5 1, 3) := by decide +kernel
theorem dX7_go_59 : decode cX7_go 59 = .ok (.goto (-21), 3) := by decide +kernel
theorem dX7_go_62 : decode cX7_go 62 = .ok (.aload_n 0, 1) := by decide +kernel
theorem dX7_go_63 : decode cX7_go 63 = .ok (.getfield 44, 3) := by decide +kernel
theorem dX7_go_66 : decode cX7_go 66 = .ok (.dup, 1) := by decide +kernel
theorem dX7_go_67 : decode cX7_go 67 = .ok (.getfield 264, 3) := by decide +kernel
theorem dX7_go_70 : decode cX7_go 70 = .ok (.iconst 1, 1) := by decide +kernel
theorem dX7_go_71 : decode cX7_go 71 = .ok (.iadd, 1) := by decide +kernel
theorem dX7_go_72 : decode cX7_go 72 = .ok (.putfield 264, 3) := by decide +kernel
theorem dX7_go_75 : decode cX7_go 75 = .ok (.iinc 4 1, 3) := by decide +kernel
theorem dX7_go_78 : decode cX7_go 78 = .ok (.goto (-49), 3) := by decide +kernel
theorem dX7_go_81 : decode cX7_go 81 = .ok (.aload_n 0, 1) := by decide +kernel
theorem dX7_go_82 : decode cX7_go 82 = .ok (.getfield 44, 3) := by decide +kernel
theorem dX7_go_85 : decode cX7_go 85 = .ok (.invokevirtual 258, 3) := by decide +kernel
theorem dX7_go_88 : decode cX7_go 88 = .ok (.iload_n 3, 1) := by decide +kernel
theorem dX7_go_89 : decode cX7_go 89 = .ok (.isub, 1) := by decide +kernel
theorem dX7_go_90 : decode cX7_go 90 = .ok (.ireturn, 1) := by decide +kernel
set_option maxRecDepth 100000 in
theorem ggX7_drawn_X5_round : GoodIn wsX7_drawn wsX5_round := goodIn_r _ [9, 10, 11, 12, 13, 14, 15, 16, 17, 131, 132, 133, 134, 135, 136, 137, 138, 139, 140, 141] rfl gd_wsX5_round
set_option maxRecDepth 100000 in
theorem gX7_drawn_X5_round : GoodIn wsX7_drawn (wsV RX7 168 RX5 yX5_round wsX5_round) := goodIn_app (goodIn_r _ [5, 6, 7, 8] rfl (by decide +kernel)) ggX7_drawn_X5_round
set_option maxRecDepth 20000 in
theorem gd_wsX7_draw : wsX7_draw.all goodWord = true := by decide +kernel
set_option maxRecDepth 100000 in
theorem ggX7_drawn_X7_draw : GoodIn wsX7_drawn wsX7_draw := goodIn_r _ [21, 3, 22, 23, 24, 13, 25, 120, 121, 122, 123, 124, 125, 126, 127, 128, 129, 130] rfl gd_wsX7_draw
set_option maxRecDepth 100000 in
theorem gX7_drawn_X7_draw : GoodIn wsX7_drawn (wsV RX7 267 RX7 yX7_draw wsX7_draw) := goodIn_app (goodIn_r _ [18, 19, 20, 13] rfl (by decide +kernel)) ggX7_drawn_X7_draw
set_option maxRecDepth 100000 in
theorem ggX7_drawn_X7_left : GoodIn wsX7_drawn wsX7_left := goodIn_r _ [25] rfl gd_wsX7_left
set_option maxRecDepth 100000 in
theorem gX7_drawn_X7_left : GoodIn wsX7_drawn (va_wsS RX7 270 yX7_left wsX7_left) := goodIn_app (goodIn_r _ [23, 24, 13] rfl (by decide +kernel)) ggX7_drawn_X7_left
set_option maxRecDepth 100000 in
theorem ggX7_drawn_X6_fewestSteps : GoodIn wsX7_drawn wsX6_fewestSteps := goodIn_r _ [30, 31, 32, 33, 34, 35, 8, 36, 37, 38, 39, 40, 41, 42, 43, 44, 10, 45, 46, 47, 48, 11, 12, 13, 14, 15, 16, 17, 49, 50, 51, 52, 53, 24, 25, 54, 55, 56, 57, 58, 59, 60, 61, 62, 63, 64, 65, 66, 67, 68, 69, 70, 71, 72, 73, 74, 75, 76, 77, 78, 79, 80, 81, 82, 83, 84, 85, 86, 87, 88, 89, 90, 91, 92, 93, 94, 95, 96, 97, 98, 99, 100, 101, 102, 103, 104, 105, 106, 107, 108, 109, 110, 111, 112, 113, 114, 115, 116, 117, 118, 119, 142, 143, 144, 145, 146, 147, 148, 149, 150, 151, 152, 153, 154, 155, 131, 132, 133, 134, 135, 136, 137, 138, 139, 140, 141, 156, 157, 158, 159, 160, 161, 162, 163, 164, 165, 166, 167] rfl gd_wsX6_fewestSteps
set_option maxRecDepth 100000 in
theorem gX7_drawn_X6_fewestSteps : GoodIn wsX7_drawn (wsV RX7 190 RX6 yX6_fewestSteps wsX6_fewestSteps) := goodIn_app (goodIn_r _ [26, 27, 28, 29] rfl (by decide +kernel)) ggX7_drawn_X6_fewestSteps
theorem dX7_drawn_0 : decode cX7_drawn 0 = .ok (.iload_n 2, 1) := by decide +kernel
theorem dX7_drawn_1 : decode cX7_drawn 1 = .ok (.iconst 1, 1) := by decide +kernel
theorem dX7_drawn_2 : decode cX7_drawn 2 = .ok (.if_icmp .lt 18, 3) := by decide +kernel
theorem dX7_drawn_5 : decode cX7_drawn 5 = .ok (.iload_n 2, 1) := by decide +kernel
theorem dX7_drawn_6 : decode cX7_drawn 6 = .ok (.bipush 30, 2) := by decide +kernel
theorem dX7_drawn_8 : decode cX7_drawn 8 = .ok (.if_icmp .gt 12, 3) := by decide +kernel
theorem dX7_drawn_11 : decode cX7_drawn 11 = .ok (.iload_n 3, 1) := by decide +kernel
theorem dX7_drawn_12 : decode cX7_drawn 12 = .ok (.ifCond .lt 8, 3) := by decide +kernel
theorem dX7_drawn_15 : decode cX7_drawn 15 = .ok (.iload_n 3, 1) := by decide +kernel
theorem dX7_drawn_16 : decode cX7_drawn 16 = .ok (.iconst 1, 1) := by decide +kernel
theorem dX7_drawn_17 : decode cX7_drawn 17 = .ok (.if_icmp .le 5, 3) := by decide +kernel
theorem dX7_drawn_20 : decode cX7_drawn 20 = .ok (.iconst (-1), 1) := by decide +kernel
theorem dX7_drawn_21 : decode cX7_drawn 21 = .ok (.ireturn, 1) := by decide +kernel
theorem dX7_drawn_22 : decode cX7_drawn 22 = .ok (.aload_n 0, 1) := by decide +kernel
theorem dX7_drawn_23 : decode cX7_drawn 23 = .ok (.getfield 21, 3) := by decide +kernel
theorem dX7_drawn_26 : decode cX7_drawn 26 = .ok (.getfield 69, 3) := by decide +kernel
theorem dX7_drawn_29 : decode cX7_drawn 29 = .ok (.iconst 2, 1) := by decide +kernel
theorem dX7_drawn_30 : decode cX7_drawn 30 = .ok (.if_icmp .ge 6, 3) := by decide +kernel
theorem dX7_drawn_33 : decode cX7_drawn 33 = .ok (.bipush (-5), 2) := by decide +kernel
theorem dX7_drawn_35 : decode cX7_drawn 35 = .ok (.ireturn, 1) := by decide +kernel
theorem dX7_drawn_36 : decode cX7_drawn 36 = .ok (.aload_n 0, 1) := by decide +kernel
theorem dX7_drawn_37 : decode cX7_drawn 37 = .ok (.iload_n 1, 1) := by decide +kernel
theorem dX7_drawn_38 : decode cX7_drawn 38 = .ok (.putfield 255, 3) := by decide +kernel
theorem dX7_drawn_41 : decode cX7_drawn 41 = .ok (.aload_n 0, 1) := by decide +kernel
theorem dX7_drawn_42 : decode cX7_drawn 42 = .ok (.getfield 21, 3) := by decide +kernel
theorem dX7_drawn_45 : decode cX7_drawn 45 = .ok (.invokevirtual 168, 3) := by decide +kernel
theorem dX7_drawn_48 : decode cX7_drawn 48 = .ok (.istore 4, 2) := by decide +kernel
theorem dX7_drawn_50 : decode cX7_drawn 50 = .ok (.iconst 0, 1) := by decide +kernel
theorem dX7_drawn_51 : decode cX7_drawn 51 = .ok (.istore 5, 2) := by decide +kernel
theorem dX7_drawn_53 : decode cX7_drawn 53 = .ok (.iconst 0, 1) := by decide +kernel
theorem dX7_drawn_54 : decode cX7_drawn 54 = .ok (.istore 6, 2) := by decide +kernel
theorem dX7_drawn_56 : decode cX7_drawn 56 = .ok (.iconst 0, 1) := by decide +kernel
theorem dX7_drawn_57 : decode cX7_drawn 57 = .ok (.istore 7, 2) := by decide +kernel
theorem dX7_drawn_59 : decode cX7_drawn 59 = .ok (.iload 7, 2) := by decide +kernel
theorem dX7_drawn_61 : decode cX7_drawn 61 = .ok (.iload_n 2, 1) := by decide +kernel
theorem dX7_drawn_62 : decode cX7_drawn 62 = .ok (.if_icmp .ge 101, 3) := by decide +kernel
theorem dX7_drawn_65 : decode cX7_drawn 65 = .ok (.aload_n 0, 1) := by decide +kernel
theorem dX7_drawn_66 : decode cX7_drawn 66 = .ok (.iload 4, 2) := by decide +kernel
theorem dX7_drawn_68 : decode cX7_drawn 68 = .ok (.invokevirtual 267, 3) := by decide +kernel
theorem dX7_drawn_71 : decode cX7_drawn 71 = .ok (.istore 8, 2) := by decide +kernel
theorem dX7_drawn_73 : decode cX7_drawn 73 = .ok (.aload_n 0, 1) := by decide +kernel
theorem dX7_drawn_74 : decode cX7_drawn 74 = .ok (.aload_n 0, 1) := by decide +kernel
theorem dX7_drawn_75 : decode cX7_drawn 75 = .ok (.getfield 21, 3) := by decide +kernel
theorem dX7_drawn_78 : decode cX7_drawn 78 = .ok (.getfield 69, 3) := by decide +kernel
theorem dX7_drawn_81 : decode cX7_drawn 81 = .ok (.invokevirtual 267, 3) := by decide +kernel
theorem dX7_drawn_84 : decode cX7_drawn 84 = .ok (.istore 9, 2) := by decide +kernel
theorem dX7_drawn_86 : decode cX7_drawn 86 = .ok (.aload_n 0, 1) := by decide +kernel
theorem dX7_drawn_87 : decode cX7_drawn 87 = .ok (.aload_n 0, 1) := by decide +kernel
theorem dX7_drawn_88 : decode cX7_drawn 88 = .ok (.getfield 21, 3) := by decide +kernel
theorem dX7_drawn_91 : decode cX7_drawn 91 = .ok (.getfield 69, 3) := by decide +kernel
theorem dX7_drawn_94 : decode cX7_drawn 94 = .ok (.invokevirtual 267, 3) := by decide +kernel
theorem dX7_drawn_97 : decode cX7_drawn 97 = .ok (.istore 10, 2) := by decide +kernel
theorem dX7_drawn_99 : decode cX7_drawn 99 = .ok (.iload 9, 2) := by decide +kernel
theorem dX7_drawn_101 : decode cX7_drawn 101 = .ok (.iload 10, 2) := by decide +kernel
theorem dX7_drawn_103 : decode cX7_drawn 103 = .ok (.if_icmp .ne 19, 3) := by decide +kernel
theorem dX7_drawn_106 : decode cX7_drawn 106 = .ok (.iload 10, 2) := by decide +kernel
theorem dX7_drawn_108 : decode cX7_drawn 108 = .ok (.iconst 1, 1) := by decide +kernel
theorem dX7_drawn_109 : decode cX7_drawn 109 = .ok (.iadd, 1) := by decide +kernel
theorem dX7_drawn_110 : decode cX7_drawn 110 = .ok (.aload_n 0, 1) := by decide +kernel
theorem dX7_drawn_111 : decode cX7_drawn 111 = .ok (.getfield 21, 3) := by decide +kernel
theorem dX7_drawn_114 : decode cX7_drawn 114 = .ok (.getfield 69, 3) := by decide +kernel
theorem dX7_drawn_117 : decode cX7_drawn 117 = .ok (.invokestatic 270, 3) := by decide +kernel
theorem dX7_drawn_120 : decode cX7_drawn 120 = .ok (.istore 10, 2) := by decide +kernel
theorem dX7_drawn_122 : decode cX7_drawn 122 = .ok (.aload_n 0, 1) := by decide +kernel
theorem dX7_drawn_123 : decode cX7_drawn 123 = .ok (.getfield 30, 3) := by decide +kernel
theorem dX7_drawn_126 : decode cX7_drawn 126 = .ok (.iload 9, 2) := by decide +kernel
theorem dX7_drawn_128 : decode cX7_drawn 128 = .ok (.iload 10, 2) := by decide +kernel
theorem dX7_drawn_130 : decode cX7_drawn 130 = .ok (.iload 8, 2) := by decide +kernel
theorem dX7_drawn_132 : decode cX7_drawn 132 = .ok (.invokevirtual 190, 3) := by decide +kernel
theorem dX7_drawn_135 : decode cX7_drawn 135 = .ok (.istore 11, 2) := by decide +kernel
theorem dX7_drawn_137 : decode cX7_drawn 137 = .ok (.iload 11, 2) := by decide +kernel
theorem dX7_drawn_139 : decode cX7_drawn 139 = .ok (.bipush (-2), 2) := by decide +kernel
theorem dX7_drawn_141 : decode cX7_drawn 141 = .ok (.if_icmp .ne 9, 3) := by decide +kernel
theorem dX7_drawn_144 : decode cX7_drawn 144 = .ok (.iinc 6 1, 3) := by decide +kernel
theorem dX7_drawn_147 : decode cX7_drawn 147 = .ok (.goto 10, 3) := by decide +kernel
theorem dX7_drawn_150 : decode cX7_drawn 150 = .ok (.iload 5, 2) := by decide +kernel
theorem dX7_drawn_152 : decode cX7_drawn 152 = .ok (.iload 11, 2) := by decide +kernel
theorem dX7_drawn_154 : decode cX7_drawn 154 = .ok (.iadd, 1) := by decide +kernel
theorem dX7_drawn_155 : decode cX7_drawn 155 = .ok (.istore 5, 2) := by decide +kernel
theorem dX7_drawn_157 : decode cX7_drawn 157 = .ok (.iinc 7 1, 3) := by decide +kernel
theorem dX7_drawn_160 : decode cX7_drawn 160 = .ok (.goto (-101), 3) := by decide +kernel
theorem dX7_drawn_163 : decode cX7_drawn 163 = .ok (.iload_n 3, 1) := by decide +kernel
theorem dX7_drawn_164 : decode cX7_drawn 164 = .ok (.ifCond .ne 8, 3) := by decide +kernel
theorem dX7_drawn_167 : decode cX7_drawn 167 = .ok (.iload 5, 2) := by decide +kernel
theorem dX7_drawn_169 : decode cX7_drawn 169 = .ok (.goto 5, 3) := by decide +kernel
theorem dX7_drawn_172 : decode cX7_drawn 172 = .ok (.iload 6, 2) := by decide +kernel
theorem dX7_drawn_174 : decode cX7_drawn 174 = .ok (.ireturn, 1) := by decide +kernel
set_option maxRecDepth 20000 in
theorem gd_wsX1_copy : wsX1_copy.all goodWord = true := by decide +kernel
set_option maxRecDepth 100000 in
theorem ggX7_image_X1_copy : GoodIn wsX7_image wsX1_copy := goodIn_r _ [9, 10, 11, 12, 13, 14, 15, 16, 17, 18, 19, 20, 32, 33, 34, 35, 36, 37, 38] rfl gd_wsX1_copy
set_option maxRecDepth 100000 in
theorem gX7_image_X1_copy : GoodIn wsX7_image (wsV RX7 273 RX1 yX1_copy wsX1_copy) := goodIn_app (goodIn_r _ [5, 6, 7, 8] rfl (by decide +kernel)) ggX7_image_X1_copy
theorem dX7_image_0 : decode cX7_image 0 = .ok (.aload_n 0, 1) := by decide +kernel
theorem dX7_image_1 : decode cX7_image 1 = .ok (.getfield 48, 3) := by decide +kernel
theorem dX7_image_4 : decode cX7_image 4 = .ok (.aload_n 0, 1) := by decide +kernel
theorem dX7_image_5 : decode cX7_image 5 = .ok (.getfield 44, 3) := by decide +kernel
theorem dX7_image_8 : decode cX7_image 8 = .ok (.invokevirtual 273, 3) := by decide +kernel
theorem dX7_image_11 : decode cX7_image 11 = .ok (.aload_n 0, 1) := by decide +kernel
theorem dX7_image_12 : decode cX7_image 12 = .ok (.iconst 1, 1) := by decide +kernel
theorem dX7_image_13 : decode cX7_image 13 = .ok (.putfield 277, 3) := by decide +kernel
theorem dX7_image_16 : decode cX7_image 16 = .ok (.aload_n 0, 1) := by decide +kernel
theorem dX7_image_17 : decode cX7_image 17 = .ok (.getfield 44, 3) := by decide +kernel
theorem dX7_image_20 : decode cX7_image 20 = .ok (.getfield 264, 3) := by decide +kernel
theorem dX7_image_23 : decode cX7_image 23 = .ok (.ireturn, 1) := by decide +kernel
set_option maxRecDepth 100000 in
theorem ggX7_back_X1_copy : GoodIn wsX7_back wsX1_copy := goodIn_r _ [9, 10, 11, 12, 13, 14, 15, 16, 17, 18, 19, 20, 32, 33, 34, 35, 36, 37, 38] rfl gd_wsX1_copy
set_option maxRecDepth 100000 in
theorem gX7_back_X1_copy : GoodIn wsX7_back (wsV RX7 273 RX1 yX1_copy wsX1_copy) := goodIn_app (goodIn_r _ [5, 6, 7, 8] rfl (by decide +kernel)) ggX7_back_X1_copy
theorem dX7_back_0 : decode cX7_back 0 = .ok (.aload_n 0, 1) := by decide +kernel
theorem dX7_back_1 : decode cX7_back 1 = .ok (.getfield 277, 3) := by decide +kernel
theorem dX7_back_4 : decode cX7_back 4 = .ok (.ifCond .ne 6, 3) := by decide +kernel
theorem dX7_back_7 : decode cX7_back 7 = .ok (.bipush (-5), 2) := by decide +kernel
theorem dX7_back_9 : decode cX7_back 9 = .ok (.ireturn, 1) := by decide +kernel
theorem dX7_back_10 : decode cX7_back 10 = .ok (.aload_n 0, 1) := by decide +kernel
theorem dX7_back_11 : decode cX7_back 11 = .ok (.getfield 44, 3) := by decide +kernel
theorem dX7_back_14 : decode cX7_back 14 = .ok (.aload_n 0, 1) := by decide +kernel
theorem dX7_back_15 : decode cX7_back 15 = .ok (.getfield 48, 3) := by decide +kernel
theorem dX7_back_18 : decode cX7_back 18 = .ok (.invokevirtual 273, 3) := by decide +kernel
theorem dX7_back_21 : decode cX7_back 21 = .ok (.aload_n 0, 1) := by decide +kernel
theorem dX7_back_22 : decode cX7_back 22 = .ok (.getfield 44, 3) := by decide +kernel
theorem dX7_back_25 : decode cX7_back 25 = .ok (.getfield 264, 3) := by decide +kernel
theorem dX7_back_28 : decode cX7_back 28 = .ok (.ireturn, 1) := by decide +kernel
set_option maxRecDepth 20000 in
theorem gd_wsX0_stepBack : wsX0_stepBack.all goodWord = true := by decide +kernel
set_option maxRecDepth 100000 in
theorem ggX7_undo_X0_stepBack : GoodIn wsX7_undo wsX0_stepBack := goodIn_r _ [10, 11, 56, 57, 58, 59, 60, 61] rfl gd_wsX0_stepBack
set_option maxRecDepth 100000 in
theorem gX7_undo_X0_stepBack : GoodIn wsX7_undo (wsV RX7 284 RX0 yX0_stepBack wsX0_stepBack) := goodIn_app (goodIn_r _ [6, 7, 8, 9] rfl (by decide +kernel)) ggX7_undo_X0_stepBack
set_option maxRecDepth 100000 in
theorem ggX7_undo_X7_tell : GoodIn wsX7_undo wsX7_tell := goodIn_r _ [16, 17, 18, 19, 20, 21, 22, 23, 24, 25, 26, 27, 28, 29, 30, 31, 32, 33, 34, 35, 36, 37, 38, 39, 40, 41, 42, 43, 44, 45, 46, 47, 48, 49, 50, 51, 52, 53, 54, 55, 62, 63, 64, 65, 66, 67, 68, 69, 70, 71, 72] rfl gd_wsX7_tell
set_option maxRecDepth 100000 in
theorem gX7_undo_X7_tell : GoodIn wsX7_undo (wsV RX7 106 RX7 yX7_tell wsX7_tell) := goodIn_app (goodIn_r _ [12, 13, 14, 15] rfl (by decide +kernel)) ggX7_undo_X7_tell
theorem dX7_undo_0 : decode cX7_undo 0 = .ok (.aload_n 0, 1) := by decide +kernel
theorem dX7_undo_1 : decode cX7_undo 1 = .ok (.getfield 37, 3) := by decide +kernel
theorem dX7_undo_4 : decode cX7_undo 4 = .ok (.getfield 281, 3) := by decide +kernel
theorem dX7_undo_7 : decode cX7_undo 7 = .ok (.ifCond .ne 6, 3) := by decide +kernel
theorem dX7_undo_10 : decode cX7_undo 10 = .ok (.bipush (-5), 2) := by decide +kernel
theorem dX7_undo_12 : decode cX7_undo 12 = .ok (.ireturn, 1) := by decide +kernel
theorem dX7_undo_13 : decode cX7_undo 13 = .ok (.aload_n 0, 1) := by decide +kernel
theorem dX7_undo_14 : decode cX7_undo 14 = .ok (.getfield 37, 3) := by decide +kernel
theorem dX7_undo_17 : decode cX7_undo 17 = .ok (.invokevirtual 284, 3) := by decide +kernel
theorem dX7_undo_20 : decode cX7_undo 20 = .ok (.istore_n 1, 1) := by decide +kernel
theorem dX7_undo_21 : decode cX7_undo 21 = .ok (.aload_n 0, 1) := by decide +kernel
theorem dX7_undo_22 : decode cX7_undo 22 = .ok (.aload_n 0, 1) := by decide +kernel
theorem dX7_undo_23 : decode cX7_undo 23 = .ok (.getfield 37, 3) := by decide +kernel
theorem dX7_undo_26 : decode cX7_undo 26 = .ok (.getfield 287, 3) := by decide +kernel
theorem dX7_undo_29 : decode cX7_undo 29 = .ok (.iload_n 1, 1) := by decide +kernel
theorem dX7_undo_30 : decode cX7_undo 30 = .ok (.iaload, 1) := by decide +kernel
theorem dX7_undo_31 : decode cX7_undo 31 = .ok (.aload_n 0, 1) := by decide +kernel
theorem dX7_undo_32 : decode cX7_undo 32 = .ok (.getfield 37, 3) := by decide +kernel
theorem dX7_undo_35 : decode cX7_undo 35 = .ok (.getfield 291, 3) := by decide +kernel
theorem dX7_undo_38 : decode cX7_undo 38 = .ok (.iload_n 1, 1) := by decide +kernel
theorem dX7_undo_39 : decode cX7_undo 39 = .ok (.iaload, 1) := by decide +kernel
theorem dX7_undo_40 : decode cX7_undo 40 = .ok (.aload_n 0, 1) := by decide +kernel
theorem dX7_undo_41 : decode cX7_undo 41 = .ok (.getfield 37, 3) := by decide +kernel
theorem dX7_undo_44 : decode cX7_undo 44 = .ok (.getfield 294, 3) := by decide +kernel
theorem dX7_undo_47 : decode cX7_undo 47 = .ok (.iload_n 1, 1) := by decide +kernel
theorem dX7_undo_48 : decode cX7_undo 48 = .ok (.iaload, 1) := by decide +kernel
theorem dX7_undo_49 : decode cX7_undo 49 = .ok (.invokevirtual 106, 3) := by decide +kernel
theorem dX7_undo_52 : decode cX7_undo 52 = .ok (.aload_n 0, 1) := by decide +kernel
theorem dX7_undo_53 : decode cX7_undo 53 = .ok (.getfield 37, 3) := by decide +kernel
theorem dX7_undo_56 : decode cX7_undo 56 = .ok (.getfield 281, 3) := by decide +kernel
theorem dX7_undo_59 : decode cX7_undo 59 = .ok (.ireturn, 1) := by decide +kernel
set_option maxRecDepth 20000 in
theorem gd_wsX0_stepOn : wsX0_stepOn.all goodWord = true := by decide +kernel
set_option maxRecDepth 100000 in
theorem ggX7_redo_X0_stepOn : GoodIn wsX7_redo wsX0_stepOn := goodIn_r _ [11, 12, 57, 58, 59, 60, 61, 62] rfl gd_wsX0_stepOn
set_option maxRecDepth 100000 in
theorem gX7_redo_X0_stepOn : GoodIn wsX7_redo (wsV RX7 298 RX0 yX0_stepOn wsX0_stepOn) := goodIn_app (goodIn_r _ [7, 8, 9, 10] rfl (by decide +kernel)) ggX7_redo_X0_stepOn
set_option maxRecDepth 100000 in
theorem ggX7_redo_X7_tell : GoodIn wsX7_redo wsX7_tell := goodIn_r _ [17, 18, 19, 20, 21, 22, 23, 24, 25, 26, 27, 28, 29, 30, 31, 32, 33, 34, 35, 36, 37, 38, 39, 40, 41, 42, 43, 44, 45, 46, 47, 48, 49, 50, 51, 52, 53, 54, 55, 56, 63, 64, 65, 66, 67, 68, 69, 70, 71, 72, 73] rfl gd_wsX7_tell
set_option maxRecDepth 100000 in
theorem gX7_redo_X7_tell : GoodIn wsX7_redo (wsV RX7 106 RX7 yX7_tell wsX7_tell) := goodIn_app (goodIn_r _ [13, 14, 15, 16] rfl (by decide +kernel)) ggX7_redo_X7_tell
theorem dX7_redo_0 : decode cX7_redo 0 = .ok (.aload_n 0, 1) := by decide +kernel
theorem dX7_redo_1 : decode cX7_redo 1 = .ok (.getfield 37, 3) := by decide +kernel
theorem dX7_redo_4 : decode cX7_redo 4 = .ok (.getfield 281, 3) := by decide +kernel
theorem dX7_redo_7 : decode cX7_redo 7 = .ok (.aload_n 0, 1) := by decide +kernel
theorem dX7_redo_8 : decode cX7_redo 8 = .ok (.getfield 37, 3) := by decide +kernel
theorem dX7_redo_11 : decode cX7_redo 11 = .ok (.getfield 297, 3) := by decide +kernel
theorem dX7_redo_14 : decode cX7_redo 14 = .ok (.if_icmp .lt 6, 3) := by decide +kernel
theorem dX7_redo_17 : decode cX7_redo 17 = .ok (.bipush (-5), 2) := by decide +kernel
theorem dX7_redo_19 : decode cX7_redo 19 = .ok (.ireturn, 1) := by decide +kernel
theorem dX7_redo_20 : decode cX7_redo 20 = .ok (.aload_n 0, 1) := by decide +kernel
theorem dX7_redo_21 : decode cX7_redo 21 = .ok (.getfield 37, 3) := by decide +kernel
theorem dX7_redo_24 : decode cX7_redo 24 = .ok (.invokevirtual 298, 3) := by decide +kernel
theorem dX7_redo_27 : decode cX7_redo 27 = .ok (.istore_n 1, 1) := by decide +kernel
theorem dX7_redo_28 : decode cX7_redo 28 = .ok (.aload_n 0, 1) := by decide +kernel
theorem dX7_redo_29 : decode cX7_redo 29 = .ok (.aload_n 0, 1) := by decide +kernel
theorem dX7_redo_30 : decode cX7_redo 30 = .ok (.getfield 37, 3) := by decide +kernel
theorem dX7_redo_33 : decode cX7_redo 33 = .ok (.getfield 287, 3) := by decide +kernel
theorem dX7_redo_36 : decode cX7_redo 36 = .ok (.iload_n 1, 1) := by decide +kernel
theorem dX7_redo_37 : decode cX7_redo 37 = .ok (.iaload, 1) := by decide +kernel
theorem dX7_redo_38 : decode cX7_redo 38 = .ok (.aload_n 0, 1) := by decide +kernel
theorem dX7_redo_39 : decode cX7_redo 39 = .ok (.getfield 37, 3) := by decide +kernel
theorem dX7_redo_42 : decode cX7_redo 42 = .ok (.getfield 291, 3) := by decide +kernel
theorem dX7_redo_45 : decode cX7_redo 45 = .ok (.iload_n 1, 1) := by decide +kernel
theorem dX7_redo_46 : decode cX7_redo 46 = .ok (.iaload, 1) := by decide +kernel
theorem dX7_redo_47 : decode cX7_redo 47 = .ok (.aload_n 0, 1) := by decide +kernel
theorem dX7_redo_48 : decode cX7_redo 48 = .ok (.getfield 37, 3) := by decide +kernel
theorem dX7_redo_51 : decode cX7_redo 51 = .ok (.getfield 301, 3) := by decide +kernel
theorem dX7_redo_54 : decode cX7_redo 54 = .ok (.iload_n 1, 1) := by decide +kernel
theorem dX7_redo_55 : decode cX7_redo 55 = .ok (.iaload, 1) := by decide +kernel
theorem dX7_redo_56 : decode cX7_redo 56 = .ok (.invokevirtual 106, 3) := by decide +kernel
theorem dX7_redo_59 : decode cX7_redo 59 = .ok (.aload_n 0, 1) := by decide +kernel
theorem dX7_redo_60 : decode cX7_redo 60 = .ok (.getfield 37, 3) := by decide +kernel
theorem dX7_redo_63 : decode cX7_redo 63 = .ok (.getfield 297, 3) := by decide +kernel
theorem dX7_redo_66 : decode cX7_redo 66 = .ok (.aload_n 0, 1) := by decide +kernel
theorem dX7_redo_67 : decode cX7_redo 67 = .ok (.getfield 37, 3) := by decide +kernel
theorem dX7_redo_70 : decode cX7_redo 70 = .ok (.getfield 281, 3) := by decide +kernel
theorem dX7_redo_73 : decode cX7_redo 73 = .ok (.isub, 1) := by decide +kernel
theorem dX7_redo_74 : decode cX7_redo 74 = .ok (.ireturn, 1) := by decide +kernel
set_option maxRecDepth 100000 in
theorem ggX7_body_X3_isKind : GoodIn wsX7_body wsX3_isKind := goodIn_r _ [6] rfl gd_wsX3_isKind
set_option maxRecDepth 100000 in
theorem gX7_body_X3_isKind : GoodIn wsX7_body (va_wsS RX7 304 yX3_isKind wsX3_isKind) := goodIn_app (goodIn_r _ [3, 4, 5] rfl (by decide +kernel)) ggX7_body_X3_isKind
set_option maxRecDepth 20000 in
theorem gd_wsX3_add : wsX3_add.all goodWord = true := by decide +kernel
set_option maxRecDepth 100000 in
theorem ggX7_body_X3_add : GoodIn wsX7_body wsX3_add := goodIn_r _ [10, 11, 12, 24, 25, 26, 27, 28] rfl gd_wsX3_add
set_option maxRecDepth 100000 in
theorem gX7_body_X3_add : GoodIn wsX7_body (wsV RX7 308 RX3 yX3_add wsX3_add) := goodIn_app (goodIn_r _ [7, 8, 9, 5] rfl (by decide +kernel)) ggX7_body_X3_add
theorem dX7_body_0 : decode cX7_body 0 = .ok (.iload_n 1, 1) := by decide +kernel
theorem dX7_body_1 : decode cX7_body 1 = .ok (.invokestatic 304, 3) := by decide +kernel
theorem dX7_body_4 : decode cX7_body 4 = .ok (.ifCond .ne 5, 3) := by decide +kernel
theorem dX7_body_7 : decode cX7_body 7 = .ok (.iconst (-1), 1) := by decide +kernel
theorem dX7_body_8 : decode cX7_body 8 = .ok (.ireturn, 1) := by decide +kernel
theorem dX7_body_9 : decode cX7_body 9 = .ok (.aload_n 0, 1) := by decide +kernel
theorem dX7_body_10 : decode cX7_body 10 = .ok (.getfield 54, 3) := by decide +kernel
theorem dX7_body_13 : decode cX7_body 13 = .ok (.getfield 307, 3) := by decide +kernel
theorem dX7_body_16 : decode cX7_body 16 = .ok (.bipush 50, 2) := by decide +kernel
theorem dX7_body_18 : decode cX7_body 18 = .ok (.if_icmp .ge 14, 3) := by decide +kernel
theorem dX7_body_21 : decode cX7_body 21 = .ok (.aload_n 0, 1) := by decide +kernel
theorem dX7_body_22 : decode cX7_body 22 = .ok (.getfield 54, 3) := by decide +kernel
theorem dX7_body_25 : decode cX7_body 25 = .ok (.iload_n 1, 1) := by decide +kernel
theorem dX7_body_26 : decode cX7_body 26 = .ok (.invokevirtual 308, 3) := by decide +kernel
theorem dX7_body_29 : decode cX7_body 29 = .ok (.goto 5, 3) := by decide +kernel
theorem dX7_body_32 : decode cX7_body 32 = .ok (.bipush (-3), 2) := by decide +kernel
theorem dX7_body_34 : decode cX7_body 34 = .ok (.ireturn, 1) := by decide +kernel
set_option maxRecDepth 20000 in
theorem gd_wsX3_perform : wsX3_perform.all goodWord = true := by decide +kernel
set_option maxRecDepth 100000 in
theorem ggX7_act_X3_perform : GoodIn wsX7_act wsX3_perform := goodIn_r _ [6, 7, 8, 9, 10, 11, 12, 13, 5, 14, 15, 16, 17, 18, 19, 20, 21, 22, 23, 24, 25, 26, 27, 39, 40, 41, 42, 43] rfl gd_wsX3_perform
set_option maxRecDepth 100000 in
theorem gX7_act_X3_perform : GoodIn wsX7_act (wsV RX7 310 RX3 yX3_perform wsX3_perform) := goodIn_app (goodIn_r _ [2, 3, 4, 5] rfl (by decide +kernel)) ggX7_act_X3_perform
theorem dX7_act_0 : decode cX7_act 0 = .ok (.aload_n 0, 1) := by decide +kernel
theorem dX7_act_1 : decode cX7_act 1 = .ok (.getfield 54, 3) := by decide +kernel
theorem dX7_act_4 : decode cX7_act 4 = .ok (.iload_n 1, 1) := by decide +kernel
theorem dX7_act_5 : decode cX7_act 5 = .ok (.iload_n 2, 1) := by decide +kernel
theorem dX7_act_6 : decode cX7_act 6 = .ok (.iload_n 3, 1) := by decide +kernel
theorem dX7_act_7 : decode cX7_act 7 = .ok (.invokevirtual 310, 3) := by decide +kernel
theorem dX7_act_10 : decode cX7_act 10 = .ok (.ireturn, 1) := by decide +kernel
theorem dX7_trace_0 : decode cX7_trace 0 = .ok (.iload_n 1, 1) := by decide +kernel
theorem dX7_trace_1 : decode cX7_trace 1 = .ok (.ifCond .lt 32, 3) := by decide +kernel
theorem dX7_trace_4 : decode cX7_trace 4 = .ok (.iload_n 1, 1) := by decide +kernel
theorem dX7_trace_5 : decode cX7_trace 5 = .ok (.bipush 24, 2) := by decide +kernel
theorem dX7_trace_7 : decode cX7_trace 7 = .ok (.if_icmp .ge 26, 3) := by decide +kernel
theorem dX7_trace_10 : decode cX7_trace 10 = .ok (.iload_n 1, 1) := by decide +kernel
theorem dX7_trace_11 : decode cX7_trace 11 = .ok (.aload_n 0, 1) := by decide +kernel
theorem dX7_trace_12 : decode cX7_trace 12 = .ok (.getfield 54, 3) := by decide +kernel
theorem dX7_trace_15 : decode cX7_trace 15 = .ok (.getfield 313, 3) := by decide +kernel
theorem dX7_trace_18 : decode cX7_trace 18 = .ok (.if_icmp .ge 15, 3) := by decide +kernel
theorem dX7_trace_21 : decode cX7_trace 21 = .ok (.aload_n 0, 1) := by decide +kernel
theorem dX7_trace_22 : decode cX7_trace 22 = .ok (.getfield 54, 3) := by decide +kernel
theorem dX7_trace_25 : decode cX7_trace 25 = .ok (.getfield 316, 3) := by decide +kernel
theorem dX7_trace_28 : decode cX7_trace 28 = .ok (.iload_n 1, 1) := by decide +kernel
theorem dX7_trace_29 : decode cX7_trace 29 = .ok (.iaload, 1) := by decide +kernel
theorem dX7_trace_30 : decode cX7_trace 30 = .ok (.goto 4, 3) := by decide +kernel
theorem dX7_trace_33 : decode cX7_trace 33 = .ok (.iconst (-1), 1) := by decide +kernel
theorem dX7_trace_34 : decode cX7_trace 34 = .ok (.ireturn, 1) := by decide +kernel
set_option maxRecDepth 100000 in
theorem ggX7_keep_X7_isShelf : GoodIn wsX7_keep wsX7_isShelf := goodIn_r _ [7] rfl gd_wsX7_isShelf
set_option maxRecDepth 100000 in
theorem gX7_keep_X7_isShelf : GoodIn wsX7_keep (va_wsS RX7 77 yX7_isShelf wsX7_isShelf) := goodIn_app (goodIn_r _ [4, 5, 6] rfl (by decide +kernel)) ggX7_keep_X7_isShelf
set_option maxRecDepth 20000 in
theorem gd_wsX4_holdRelay : wsX4_holdRelay.all goodWord = true := by decide +kernel
set_option maxRecDepth 100000 in
theorem ggX7_keep_X4_holdRelay : GoodIn wsX7_keep wsX4_holdRelay := goodIn_r _ [12, 13, 14, 15, 32, 33, 34, 35] rfl gd_wsX4_holdRelay
set_option maxRecDepth 100000 in
theorem gX7_keep_X4_holdRelay : GoodIn wsX7_keep (wsV RX7 319 RX4 yX4_holdRelay wsX4_holdRelay) := goodIn_app (goodIn_r _ [8, 9, 10, 11] rfl (by decide +kernel)) ggX7_keep_X4_holdRelay
theorem dX7_keep_0 : decode cX7_keep 0 = .ok (.iload_n 1, 1) := by decide +kernel
theorem dX7_keep_1 : decode cX7_keep 1 = .ok (.invokestatic 77, 3) := by decide +kernel
theorem dX7_keep_4 : decode cX7_keep 4 = .ok (.ifCond .eq 19, 3) := by decide +kernel
theorem dX7_keep_7 : decode cX7_keep 7 = .ok (.iload_n 2, 1) := by decide +kernel
theorem dX7_keep_8 : decode cX7_keep 8 = .ok (.iconst (-1), 1) := by decide +kernel
theorem dX7_keep_9 : decode cX7_keep 9 = .ok (.if_icmp .lt 14, 3) := by decide +kernel
theorem dX7_keep_12 : decode cX7_keep 12 = .ok (.iload_n 2, 1) := by decide +kernel
theorem dX7_keep_13 : decode cX7_keep 13 = .ok (.aload_n 0, 1) := by decide +kernel
theorem dX7_keep_14 : decode cX7_keep 14 = .ok (.getfield 54, 3) := by decide +kernel
theorem dX7_keep_17 : decode cX7_keep 17 = .ok (.getfield 307, 3) := by decide +kernel
theorem dX7_keep_20 : decode cX7_keep 20 = .ok (.if_icmp .lt 5, 3) := by decide +kernel
theorem dX7_keep_23 : decode cX7_keep 23 = .ok (.iconst (-1), 1) := by decide +kernel
theorem dX7_keep_24 : decode cX7_keep 24 = .ok (.ireturn, 1) := by decide +kernel
theorem dX7_keep_25 : decode cX7_keep 25 = .ok (.aload_n 0, 1) := by decide +kernel
theorem dX7_keep_26 : decode cX7_keep 26 = .ok (.getfield 60, 3) := by decide +kernel
theorem dX7_keep_29 : decode cX7_keep 29 = .ok (.iload_n 1, 1) := by decide +kernel
theorem dX7_keep_30 : decode cX7_keep 30 = .ok (.aaload, 1) := by decide +kernel
theorem dX7_keep_31 : decode cX7_keep 31 = .ok (.iload_n 2, 1) := by decide +kernel
theorem dX7_keep_32 : decode cX7_keep 32 = .ok (.invokevirtual 319, 3) := by decide +kernel
theorem dX7_keep_35 : decode cX7_keep 35 = .ok (.iconst 1, 1) := by decide +kernel
theorem dX7_keep_36 : decode cX7_keep 36 = .ok (.ireturn, 1) := by decide +kernel
set_option maxRecDepth 100000 in
theorem ggX7_row_X7_isShelf : GoodIn wsX7_row wsX7_isShelf := goodIn_r _ [5] rfl gd_wsX7_isShelf
set_option maxRecDepth 100000 in
theorem gX7_row_X7_isShelf : GoodIn wsX7_row (va_wsS RX7 77 yX7_isShelf wsX7_isShelf) := goodIn_app (goodIn_r _ [2, 3, 4] rfl (by decide +kernel)) ggX7_row_X7_isShelf
set_option maxRecDepth 20000 in
theorem gd_wsX4_holdRow : wsX4_holdRow.all goodWord = true := by decide +kernel
set_option maxRecDepth 100000 in
theorem ggX7_row_X4_holdRow : GoodIn wsX7_row wsX4_holdRow := goodIn_r _ [10, 11, 12, 13, 14, 15, 16, 17, 18, 30, 31, 32, 33] rfl gd_wsX4_holdRow
set_option maxRecDepth 100000 in
theorem gX7_row_X4_holdRow : GoodIn wsX7_row (wsV RX7 322 RX4 yX4_holdRow wsX4_holdRow) := goodIn_app (goodIn_r _ [6, 7, 8, 9] rfl (by decide +kernel)) ggX7_row_X4_holdRow
theorem dX7_row_0 : decode cX7_row 0 = .ok (.iload_n 1, 1) := by decide +kernel
theorem dX7_row_1 : decode cX7_row 1 = .ok (.invokestatic 77, 3) := by decide +kernel
theorem dX7_row_4 : decode cX7_row 4 = .ok (.ifCond .eq 18, 3) := by decide +kernel
theorem dX7_row_7 : decode cX7_row 7 = .ok (.iload_n 2, 1) := by decide +kernel
theorem dX7_row_8 : decode cX7_row 8 = .ok (.ifCond .lt 14, 3) := by decide +kernel
theorem dX7_row_11 : decode cX7_row 11 = .ok (.iload_n 2, 1) := by decide +kernel
theorem dX7_row_12 : decode cX7_row 12 = .ok (.iconst 4, 1) := by decide +kernel
theorem dX7_row_13 : decode cX7_row 13 = .ok (.if_icmp .gt 9, 3) := by decide +kernel
theorem dX7_row_16 : decode cX7_row 16 = .ok (.iload_n 3, 1) := by decide +kernel
theorem dX7_row_17 : decode cX7_row 17 = .ok (.bipush 60, 2) := by decide +kernel
theorem dX7_row_19 : decode cX7_row 19 = .ok (.if_icmp .le 5, 3) := by decide +kernel
theorem dX7_row_22 : decode cX7_row 22 = .ok (.iconst (-1), 1) := by decide +kernel
theorem dX7_row_23 : decode cX7_row 23 = .ok (.ireturn, 1) := by decide +kernel
theorem dX7_row_24 : decode cX7_row 24 = .ok (.iload_n 3, 1) := by decide +kernel
theorem dX7_row_25 : decode cX7_row 25 = .ok (.ifCond .ge 6, 3) := by decide +kernel
theorem dX7_row_28 : decode cX7_row 28 = .ok (.bipush (-14), 2) := by decide +kernel
theorem dX7_row_30 : decode cX7_row 30 = .ok (.ireturn, 1) := by decide +kernel
theorem dX7_row_31 : decode cX7_row 31 = .ok (.aload_n 0, 1) := by decide +kernel
theorem dX7_row_32 : decode cX7_row 32 = .ok (.getfield 60, 3) := by decide +kernel
theorem dX7_row_35 : decode cX7_row 35 = .ok (.iload_n 1, 1) := by decide +kernel
theorem dX7_row_36 : decode cX7_row 36 = .ok (.aaload, 1) := by decide +kernel
theorem dX7_row_37 : decode cX7_row 37 = .ok (.iload_n 2, 1) := by decide +kernel
theorem dX7_row_38 : decode cX7_row 38 = .ok (.iload_n 3, 1) := by decide +kernel
theorem dX7_row_39 : decode cX7_row 39 = .ok (.invokevirtual 322, 3) := by decide +kernel
theorem dX7_row_42 : decode cX7_row 42 = .ok (.iconst 1, 1) := by decide +kernel
theorem dX7_row_43 : decode cX7_row 43 = .ok (.ireturn, 1) := by decide +kernel
set_option maxRecDepth 20000 in
theorem gd_wsX7_refusalOfElement : wsX7_refusalOfElement.all goodWord = true := by decide +kernel
set_option maxRecDepth 100000 in
theorem ggX7_put_X7_refusalOfElement : GoodIn wsX7_put wsX7_refusalOfElement := goodIn_r _ [6, 1, 7, 8, 5, 9, 10, 11, 12, 13, 14, 15, 16, 17, 18, 19, 20, 21, 22, 23, 24, 25, 31, 32, 33, 34, 35, 36, 37, 38, 39, 40, 41, 42, 43, 44, 45] rfl gd_wsX7_refusalOfElement
set_option maxRecDepth 100000 in
theorem gX7_put_X7_refusalOfElement : GoodIn wsX7_put (wsV RX7 326 RX7 yX7_refusalOfElement wsX7_refusalOfElement) := goodIn_app (goodIn_r _ [2, 3, 4, 5] rfl (by decide +kernel)) ggX7_put_X7_refusalOfElement
set_option maxRecDepth 20000 in
theorem gd_wsX4_lay : wsX4_lay.all goodWord = true := by decide +kernel
set_option maxRecDepth 100000 in
theorem ggX7_put_X4_lay : GoodIn wsX7_put wsX4_lay := goodIn_r _ [29, 15, 30, 42, 43, 44, 45] rfl gd_wsX4_lay
set_option maxRecDepth 100000 in
theorem gX7_put_X4_lay : GoodIn wsX7_put (wsV RX7 329 RX4 yX4_lay wsX4_lay) := goodIn_app (goodIn_r _ [26, 27, 28, 13] rfl (by decide +kernel)) ggX7_put_X4_lay
theorem dX7_put_0 : decode cX7_put 0 = .ok (.aload_n 0, 1) := by decide +kernel
theorem dX7_put_1 : decode cX7_put 1 = .ok (.iload_n 1, 1) := by decide +kernel
theorem dX7_put_2 : decode cX7_put 2 = .ok (.iload_n 2, 1) := by decide +kernel
theorem dX7_put_3 : decode cX7_put 3 = .ok (.invokevirtual 326, 3) := by decide +kernel
theorem dX7_put_6 : decode cX7_put 6 = .ok (.istore 5, 2) := by decide +kernel
theorem dX7_put_8 : decode cX7_put 8 = .ok (.iload 5, 2) := by decide +kernel
theorem dX7_put_10 : decode cX7_put 10 = .ok (.ifCond .eq 6, 3) := by decide +kernel
theorem dX7_put_13 : decode cX7_put 13 = .ok (.iload 5, 2) := by decide +kernel
theorem dX7_put_15 : decode cX7_put 15 = .ok (.ireturn, 1) := by decide +kernel
theorem dX7_put_16 : decode cX7_put 16 = .ok (.aload_n 0, 1) := by decide +kernel
theorem dX7_put_17 : decode cX7_put 17 = .ok (.getfield 60, 3) := by decide +kernel
theorem dX7_put_20 : decode cX7_put 20 = .ok (.iload_n 1, 1) := by decide +kernel
theorem dX7_put_21 : decode cX7_put 21 = .ok (.aaload, 1) := by decide +kernel
theorem dX7_put_22 : decode cX7_put 22 = .ok (.iload_n 2, 1) := by decide +kernel
theorem dX7_put_23 : decode cX7_put 23 = .ok (.lload_n 3, 1) := by decide +kernel
theorem dX7_put_24 : decode cX7_put 24 = .ok (.invokevirtual 329, 3) := by decide +kernel
theorem dX7_put_27 : decode cX7_put 27 = .ok (.iconst 1, 1) := by decide +kernel
theorem dX7_put_28 : decode cX7_put 28 = .ok (.ireturn, 1) := by decide +kernel
set_option maxRecDepth 100000 in
theorem ggX7_element_X7_refusalOfElement : GoodIn wsX7_element wsX7_refusalOfElement := goodIn_r _ [8, 2, 9, 10, 7, 11, 12, 13, 14, 15, 16, 17, 18, 19, 20, 21, 22, 23, 24, 25, 26, 27, 28, 29, 30, 31, 32, 33, 34, 35, 36, 37, 38, 39, 40, 41, 42] rfl gd_wsX7_refusalOfElement
set_option maxRecDepth 100000 in
theorem gX7_element_X7_refusalOfElement : GoodIn wsX7_element (wsV RX7 326 RX7 yX7_refusalOfElement wsX7_refusalOfElement) := goodIn_app (goodIn_r _ [4, 5, 6, 7] rfl (by decide +kernel)) ggX7_element_X7_refusalOfElement
theorem dX7_element_0 : decode cX7_element 0 = .ok (.aload_n 0, 1) := by decide +kernel
theorem dX7_element_1 : decode cX7_element 1 = .ok (.iload_n 1, 1) := by decide +kernel
theorem dX7_element_2 : decode cX7_element 2 = .ok (.iload_n 2, 1) := by decide +kernel
theorem dX7_element_3 : decode cX7_element 3 = .ok (.invokevirtual 326, 3) := by decide +kernel
theorem dX7_element_6 : decode cX7_element 6 = .ok (.ifCond .eq 9, 3) := by decide +kernel
theorem dX7_element_9 : decode cX7_element 9 = .ok (.ldc2_w 221, 3) := by decide +kernel
theorem dX7_element_12 : decode cX7_element 12 = .ok (.goto 14, 3) := by decide +kernel
theorem dX7_element_15 : decode cX7_element 15 = .ok (.aload_n 0, 1) := by decide +kernel
theorem dX7_element_16 : decode cX7_element 16 = .ok (.getfield 60, 3) := by decide +kernel
theorem dX7_element_19 : decode cX7_element 19 = .ok (.iload_n 1, 1) := by decide +kernel
theorem dX7_element_20 : decode cX7_element 20 = .ok (.aaload, 1) := by decide +kernel
theorem dX7_element_21 : decode cX7_element 21 = .ok (.getfield 92, 3) := by decide +kernel
theorem dX7_element_24 : decode cX7_element 24 = .ok (.iload_n 2, 1) := by decide +kernel
theorem dX7_element_25 : decode cX7_element 25 = .ok (.laload, 1) := by decide +kernel
theorem dX7_element_26 : decode cX7_element 26 = .ok (.lreturn, 1) := by decide +kernel
set_option maxRecDepth 100000 in
theorem ggX7_shift_X7_isShelf : GoodIn wsX7_shift wsX7_isShelf := goodIn_r _ [11] rfl gd_wsX7_isShelf
set_option maxRecDepth 100000 in
theorem gX7_shift_X7_isShelf : GoodIn wsX7_shift (va_wsS RX7 77 yX7_isShelf wsX7_isShelf) := goodIn_app (goodIn_r _ [8, 9, 10] rfl (by decide +kernel)) ggX7_shift_X7_isShelf
set_option maxRecDepth 100000 in
theorem ggX7_shift_X4_holdsNothing : GoodIn wsX7_shift wsX4_holdsNothing := goodIn_r _ [16, 17, 18, 43, 44, 45, 46] rfl gd_wsX4_holdsNothing
set_option maxRecDepth 100000 in
theorem gX7_shift_X4_holdsNothing : GoodIn wsX7_shift (wsV RX7 81 RX4 yX4_holdsNothing wsX4_holdsNothing) := goodIn_app (goodIn_r _ [12, 13, 14, 15] rfl (by decide +kernel)) ggX7_shift_X4_holdsNothing
set_option maxRecDepth 20000 in
theorem gd_wsX4_holdsRow : wsX4_holdsRow.all goodWord = true := by decide +kernel
set_option maxRecDepth 100000 in
theorem ggX7_shift_X4_holdsRow : GoodIn wsX7_shift wsX4_holdsRow := goodIn_r _ [22, 17, 43, 44, 45, 46] rfl gd_wsX4_holdsRow
set_option maxRecDepth 100000 in
theorem gX7_shift_X4_holdsRow : GoodIn wsX7_shift (wsV RX7 333 RX4 yX4_holdsRow wsX4_holdsRow) := goodIn_app (goodIn_r _ [19, 20, 21, 15] rfl (by decide +kernel)) ggX7_shift_X4_holdsRow
set_option maxRecDepth 100000 in
theorem ggX7_shift_X4_holdsRowOf : GoodIn wsX7_shift wsX4_holdsRowOf := goodIn_r _ [26, 17, 43, 44, 45, 46] rfl gd_wsX4_holdsRowOf
set_option maxRecDepth 100000 in
theorem gX7_shift_X4_holdsRowOf : GoodIn wsX7_shift (wsV RX7 85 RX4 yX4_holdsRowOf wsX4_holdsRowOf) := goodIn_app (goodIn_r _ [23, 24, 25, 15] rfl (by decide +kernel)) ggX7_shift_X4_holdsRowOf
set_option maxRecDepth 100000 in
theorem ggX7_shift_X4_hasPlaces : GoodIn wsX7_shift wsX4_hasPlaces := goodIn_r _ [30, 31, 43, 44, 45, 46] rfl gd_wsX4_hasPlaces
set_option maxRecDepth 100000 in
theorem gX7_shift_X4_hasPlaces : GoodIn wsX7_shift (wsV RX7 88 RX4 yX4_hasPlaces wsX4_hasPlaces) := goodIn_app (goodIn_r _ [27, 28, 29, 15] rfl (by decide +kernel)) ggX7_shift_X4_hasPlaces
theorem dX7_shift_0 : decode cX7_shift 0 = .ok (.iload_n 1, 1) := by decide +kernel
theorem dX7_shift_1 : decode cX7_shift 1 = .ok (.invokestatic 77, 3) := by decide +kernel
theorem dX7_shift_4 : decode cX7_shift 4 = .ok (.ifCond .eq 10, 3) := by decide +kernel
theorem dX7_shift_7 : decode cX7_shift 7 = .ok (.iload_n 3, 1) := by decide +kernel
theorem dX7_shift_8 : decode cX7_shift 8 = .ok (.invokestatic 77, 3) := by decide +kernel
theorem dX7_shift_11 : decode cX7_shift 11 = .ok (.ifCond .ne 5, 3) := by decide +kernel
theorem dX7_shift_14 : decode cX7_shift 14 = .ok (.iconst (-1), 1) := by decide +kernel
theorem dX7_shift_15 : decode cX7_shift 15 = .ok (.ireturn, 1) := by decide +kernel
theorem dX7_shift_16 : decode cX7_shift 16 = .ok (.aload_n 0, 1) := by decide +kernel
theorem dX7_shift_17 : decode cX7_shift 17 = .ok (.getfield 60, 3) := by decide +kernel
theorem dX7_shift_20 : decode cX7_shift 20 = .ok (.iload_n 1, 1) := by decide +kernel
theorem dX7_shift_21 : decode cX7_shift 21 = .ok (.aaload, 1) := by decide +kernel
theorem dX7_shift_22 : decode cX7_shift 22 = .ok (.astore 6, 2) := by decide +kernel
theorem dX7_shift_24 : decode cX7_shift 24 = .ok (.aload_n 0, 1) := by decide +kernel
theorem dX7_shift_25 : decode cX7_shift 25 = .ok (.getfield 60, 3) := by decide +kernel
theorem dX7_shift_28 : decode cX7_shift 28 = .ok (.iload_n 3, 1) := by decide +kernel
theorem dX7_shift_29 : decode cX7_shift 29 = .ok (.aaload, 1) := by decide +kernel
theorem dX7_shift_30 : decode cX7_shift 30 = .ok (.astore 7, 2) := by decide +kernel
theorem dX7_shift_32 : decode cX7_shift 32 = .ok (.aload 6, 2) := by decide +kernel
theorem dX7_shift_34 : decode cX7_shift 34 = .ok (.invokevirtual 81, 3) := by decide +kernel
theorem dX7_shift_37 : decode cX7_shift 37 = .ok (.ifCond .ne 11, 3) := by decide +kernel
theorem dX7_shift_40 : decode cX7_shift 40 = .ok (.aload 7, 2) := by decide +kernel
theorem dX7_shift_42 : decode cX7_shift 42 = .ok (.invokevirtual 81, 3) := by decide +kernel
theorem dX7_shift_45 : decode cX7_shift 45 = .ok (.ifCond .eq 6, 3) := by decide +kernel
theorem dX7_shift_48 : decode cX7_shift 48 = .ok (.bipush (-11), 2) := by decide +kernel
theorem dX7_shift_50 : decode cX7_shift 50 = .ok (.ireturn, 1) := by decide +kernel
theorem dX7_shift_51 : decode cX7_shift 51 = .ok (.aload 6, 2) := by decide +kernel
theorem dX7_shift_53 : decode cX7_shift 53 = .ok (.invokevirtual 333, 3) := by decide +kernel
theorem dX7_shift_56 : decode cX7_shift 56 = .ok (.ifCond .eq 16, 3) := by decide +kernel
theorem dX7_shift_59 : decode cX7_shift 59 = .ok (.aload 7, 2) := by decide +kernel
theorem dX7_shift_61 : decode cX7_shift 61 = .ok (.aload 6, 2) := by decide +kernel
theorem dX7_shift_63 : decode cX7_shift 63 = .ok (.getfield 336, 3) := by decide +kernel
theorem dX7_shift_66 : decode cX7_shift 66 = .ok (.invokevirtual 85, 3) := by decide +kernel
theorem dX7_shift_69 : decode cX7_shift 69 = .ok (.ifCond .ne 6, 3) := by decide +kernel
theorem dX7_shift_72 : decode cX7_shift 72 = .ok (.bipush (-12), 2) := by decide +kernel
theorem dX7_shift_74 : decode cX7_shift 74 = .ok (.ireturn, 1) := by decide +kernel
theorem dX7_shift_75 : decode cX7_shift 75 = .ok (.aload 6, 2) := by decide +kernel
theorem dX7_shift_77 : decode cX7_shift 77 = .ok (.iload_n 2, 1) := by decide +kernel
theorem dX7_shift_78 : decode cX7_shift 78 = .ok (.iload 5, 2) := by decide +kernel
theorem dX7_shift_80 : decode cX7_shift 80 = .ok (.invokevirtual 88, 3) := by decide +kernel
theorem dX7_shift_83 : decode cX7_shift 83 = .ok (.ifCond .eq 15, 3) := by decide +kernel
theorem dX7_shift_86 : decode cX7_shift 86 = .ok (.aload 7, 2) := by decide +kernel
theorem dX7_shift_88 : decode cX7_shift 88 = .ok (.iload 4, 2) := by decide +kernel
theorem dX7_shift_90 : decode cX7_shift 90 = .ok (.iload 5, 2) := by decide +kernel
theorem dX7_shift_92 : decode cX7_shift 92 = .ok (.invokevirtual 88, 3) := by decide +kernel
theorem dX7_shift_95 : decode cX7_shift 95 = .ok (.ifCond .ne 6, 3) := by decide +kernel
theorem dX7_shift_98 : decode cX7_shift 98 = .ok (.bipush (-13), 2) := by decide +kernel
theorem dX7_shift_100 : decode cX7_shift 100 = .ok (.ireturn, 1) := by decide +kernel
theorem dX7_shift_101 : decode cX7_shift 101 = .ok (.aload 6, 2) := by decide +kernel
theorem dX7_shift_103 : decode cX7_shift 103 = .ok (.getfield 92, 3) := by decide +kernel
theorem dX7_shift_106 : decode cX7_shift 106 = .ok (.iload_n 2, 1) := by decide +kernel
theorem dX7_shift_107 : decode cX7_shift 107 = .ok (.aload 7, 2) := by decide +kernel
theorem dX7_shift_109 : decode cX7_shift 109 = .ok (.getfield 92, 3) := by decide +kernel
theorem dX7_shift_112 : decode cX7_shift 112 = .ok (.iload 4, 2) := by decide +kernel
theorem dX7_shift_114 : decode cX7_shift 114 = .ok (.iload 5, 2) := by decide +kernel
theorem dX7_shift_116 : decode cX7_shift 116 = .ok (.invokestatic 339, 3) := by decide +kernel
theorem dX7_shift_119 : decode cX7_shift 119 = .ok (.iload 5, 2) := by decide +kernel
theorem dX7_shift_121 : decode cX7_shift 121 = .ok (.ireturn, 1) := by decide +kernel
set_option maxRecDepth 100000 in
theorem ggX7_taken_X7_isShelf : GoodIn wsX7_taken wsX7_isShelf := goodIn_r _ [7] rfl gd_wsX7_isShelf
set_option maxRecDepth 100000 in
theorem gX7_taken_X7_isShelf : GoodIn wsX7_taken (va_wsS RX7 77 yX7_isShelf wsX7_isShelf) := goodIn_app (goodIn_r _ [4, 5, 6] rfl (by decide +kernel)) ggX7_taken_X7_isShelf
set_option maxRecDepth 100000 in
theorem ggX7_taken_X3_isKind : GoodIn wsX7_taken wsX3_isKind := goodIn_r _ [11] rfl gd_wsX3_isKind
set_option maxRecDepth 100000 in
theorem gX7_taken_X3_isKind : GoodIn wsX7_taken (va_wsS RX7 304 yX3_isKind wsX3_isKind) := goodIn_app (goodIn_r _ [8, 9, 10] rfl (by decide +kernel)) ggX7_taken_X3_isKind
set_option maxRecDepth 100000 in
theorem ggX7_taken_X4_holdsNothing : GoodIn wsX7_taken wsX4_holdsNothing := goodIn_r _ [16, 17, 18, 45, 46, 47, 48] rfl gd_wsX4_holdsNothing
set_option maxRecDepth 100000 in
theorem gX7_taken_X4_holdsNothing : GoodIn wsX7_taken (wsV RX7 81 RX4 yX4_holdsNothing wsX4_holdsNothing) := goodIn_app (goodIn_r _ [12, 13, 14, 15] rfl (by decide +kernel)) ggX7_taken_X4_holdsNothing
set_option maxRecDepth 100000 in
theorem ggX7_taken_X4_holdsRow : GoodIn wsX7_taken wsX4_holdsRow := goodIn_r _ [22, 17, 45, 46, 47, 48] rfl gd_wsX4_holdsRow
set_option maxRecDepth 100000 in
theorem gX7_taken_X4_holdsRow : GoodIn wsX7_taken (wsV RX7 333 RX4 yX4_holdsRow wsX4_holdsRow) := goodIn_app (goodIn_r _ [19, 20, 21, 15] rfl (by decide +kernel)) ggX7_taken_X4_holdsRow
set_option maxRecDepth 20000 in
theorem gd_wsX3_kindOf : wsX3_kindOf.all goodWord = true := by decide +kernel
set_option maxRecDepth 100000 in
theorem ggX7_taken_X3_kindOf : GoodIn wsX7_taken wsX3_kindOf := goodIn_r _ [26, 27, 28, 49, 50, 51, 52, 53] rfl gd_wsX3_kindOf
set_option maxRecDepth 100000 in
theorem gX7_taken_X3_kindOf : GoodIn wsX7_taken (wsV RX7 348 RX3 yX3_kindOf wsX3_kindOf) := goodIn_app (goodIn_r _ [23, 24, 25, 10] rfl (by decide +kernel)) ggX7_taken_X3_kindOf
set_option maxRecDepth 20000 in
theorem gd_wsX3_isUnder : wsX3_isUnder.all goodWord = true := by decide +kernel
set_option maxRecDepth 100000 in
theorem ggX7_taken_X3_isUnder : GoodIn wsX7_taken wsX3_isUnder := goodIn_r _ [31, 32, 33, 9, 10, 11] rfl gd_wsX3_isUnder
set_option maxRecDepth 100000 in
theorem gX7_taken_X3_isUnder : GoodIn wsX7_taken (va_wsS RX7 351 yX3_isUnder wsX3_isUnder) := goodIn_app (goodIn_r _ [29, 30, 10] rfl (by decide +kernel)) ggX7_taken_X3_isUnder
theorem dX7_taken_0 : decode cX7_taken 0 = .ok (.iload_n 1, 1) := by decide +kernel
theorem dX7_taken_1 : decode cX7_taken 1 = .ok (.invokestatic 77, 3) := by decide +kernel
theorem dX7_taken_4 : decode cX7_taken 4 = .ok (.ifCond .eq 10, 3) := by decide +kernel
theorem dX7_taken_7 : decode cX7_taken 7 = .ok (.iload_n 2, 1) := by decide +kernel
theorem dX7_taken_8 : decode cX7_taken 8 = .ok (.invokestatic 304, 3) := by decide +kernel
theorem dX7_taken_11 : decode cX7_taken 11 = .ok (.ifCond .ne 5, 3) := by decide +kernel
theorem dX7_taken_14 : decode cX7_taken 14 = .ok (.iconst (-1), 1) := by decide +kernel
theorem dX7_taken_15 : decode cX7_taken 15 = .ok (.ireturn, 1) := by decide +kernel
theorem dX7_taken_16 : decode cX7_taken 16 = .ok (.aload_n 0, 1) := by decide +kernel
theorem dX7_taken_17 : decode cX7_taken 17 = .ok (.getfield 60, 3) := by decide +kernel
theorem dX7_taken_20 : decode cX7_taken 20 = .ok (.iload_n 1, 1) := by decide +kernel
theorem dX7_taken_21 : decode cX7_taken 21 = .ok (.aaload, 1) := by decide +kernel
theorem dX7_taken_22 : decode cX7_taken 22 = .ok (.astore_n 3, 1) := by decide +kernel
theorem dX7_taken_23 : decode cX7_taken 23 = .ok (.aload_n 3, 1) := by decide +kernel
theorem dX7_taken_24 : decode cX7_taken 24 = .ok (.invokevirtual 81, 3) := by decide +kernel
theorem dX7_taken_27 : decode cX7_taken 27 = .ok (.ifCond .eq 6, 3) := by decide +kernel
theorem dX7_taken_30 : decode cX7_taken 30 = .ok (.bipush (-11), 2) := by decide +kernel
theorem dX7_taken_32 : decode cX7_taken 32 = .ok (.ireturn, 1) := by decide +kernel
theorem dX7_taken_33 : decode cX7_taken 33 = .ok (.aload_n 3, 1) := by decide +kernel
theorem dX7_taken_34 : decode cX7_taken 34 = .ok (.invokevirtual 333, 3) := by decide +kernel
theorem dX7_taken_37 : decode cX7_taken 37 = .ok (.ifCond .eq 6, 3) := by decide +kernel
theorem dX7_taken_40 : decode cX7_taken 40 = .ok (.bipush (-12), 2) := by decide +kernel
theorem dX7_taken_42 : decode cX7_taken 42 = .ok (.ireturn, 1) := by decide +kernel
theorem dX7_taken_43 : decode cX7_taken 43 = .ok (.aload_n 0, 1) := by decide +kernel
theorem dX7_taken_44 : decode cX7_taken 44 = .ok (.getfield 54, 3) := by decide +kernel
theorem dX7_taken_47 : decode cX7_taken 47 = .ok (.aload_n 3, 1) := by decide +kernel
theorem dX7_taken_48 : decode cX7_taken 48 = .ok (.getfield 345, 3) := by decide +kernel
theorem dX7_taken_51 : decode cX7_taken 51 = .ok (.invokevirtual 348, 3) := by decide +kernel
theorem dX7_taken_54 : decode cX7_taken 54 = .ok (.istore 4, 2) := by decide +kernel
theorem dX7_taken_56 : decode cX7_taken 56 = .ok (.iload 4, 2) := by decide +kernel
theorem dX7_taken_58 : decode cX7_taken 58 = .ok (.iload_n 2, 1) := by decide +kernel
theorem dX7_taken_59 : decode cX7_taken 59 = .ok (.invokestatic 351, 3) := by decide +kernel
theorem dX7_taken_62 : decode cX7_taken 62 = .ok (.ifCond .eq 8, 3) := by decide +kernel
theorem dX7_taken_65 : decode cX7_taken 65 = .ok (.iload 4, 2) := by decide +kernel
theorem dX7_taken_67 : decode cX7_taken 67 = .ok (.goto 5, 3) := by decide +kernel
theorem dX7_taken_70 : decode cX7_taken 70 = .ok (.bipush (-12), 2) := by decide +kernel
theorem dX7_taken_72 : decode cX7_taken 72 = .ok (.ireturn, 1) := by decide +kernel
set_option maxRecDepth 100000 in
theorem ggX7_count_X1_arrived : GoodIn wsX7_count wsX1_arrived := goodIn_r _ [15, 16, 17, 40, 41, 42, 43, 44, 45, 46] rfl gd_wsX1_arrived
set_option maxRecDepth 100000 in
theorem gX7_count_X1_arrived : GoodIn wsX7_count (wsV RX7 258 RX1 yX1_arrived wsX1_arrived) := goodIn_app (goodIn_r _ [11, 12, 13, 14] rfl (by decide +kernel)) ggX7_count_X1_arrived
theorem dX7_count_0 : decode cX7_count 0 = .ok (.iload_n 1, 1) := by decide +kernel
theorem dX7_count_1 : decode cX7_count 1 = .ok (.tableswitch 99 0 6 #[43, 51, 59, 67, 75, 83, 91], 43) := by decide +kernel
theorem dX7_count_44 : decode cX7_count 44 = .ok (.aload_n 0, 1) := by decide +kernel
theorem dX7_count_45 : decode cX7_count 45 = .ok (.getfield 21, 3) := by decide +kernel
theorem dX7_count_48 : decode cX7_count 48 = .ok (.getfield 69, 3) := by decide +kernel
theorem dX7_count_51 : decode cX7_count 51 = .ok (.ireturn, 1) := by decide +kernel
theorem dX7_count_52 : decode cX7_count 52 = .ok (.aload_n 0, 1) := by decide +kernel
theorem dX7_count_53 : decode cX7_count 53 = .ok (.getfield 44, 3) := by decide +kernel
theorem dX7_count_56 : decode cX7_count 56 = .ok (.getfield 118, 3) := by decide +kernel
theorem dX7_count_59 : decode cX7_count 59 = .ok (.ireturn, 1) := by decide +kernel
theorem dX7_count_60 : decode cX7_count 60 = .ok (.aload_n 0, 1) := by decide +kernel
theorem dX7_count_61 : decode cX7_count 61 = .ok (.getfield 44, 3) := by decide +kernel
theorem dX7_count_64 : decode cX7_count 64 = .ok (.invokevirtual 258, 3) := by decide +kernel
theorem dX7_count_67 : decode cX7_count 67 = .ok (.ireturn, 1) := by decide +kernel
theorem dX7_count_68 : decode cX7_count 68 = .ok (.aload_n 0, 1) := by decide +kernel
theorem dX7_count_69 : decode cX7_count 69 = .ok (.getfield 10, 3) := by decide +kernel
theorem dX7_count_72 : decode cX7_count 72 = .ok (.getfield 131, 3) := by decide +kernel
theorem dX7_count_75 : decode cX7_count 75 = .ok (.ireturn, 1) := by decide +kernel
theorem dX7_count_76 : decode cX7_count 76 = .ok (.aload_n 0, 1) := by decide +kernel
theorem dX7_count_77 : decode cX7_count 77 = .ok (.getfield 37, 3) := by decide +kernel
theorem dX7_count_80 : decode cX7_count 80 = .ok (.getfield 281, 3) := by decide +kernel
theorem dX7_count_83 : decode cX7_count 83 = .ok (.ireturn, 1) := by decide +kernel
theorem dX7_count_84 : decode cX7_count 84 = .ok (.aload_n 0, 1) := by decide +kernel
theorem dX7_count_85 : decode cX7_count 85 = .ok (.getfield 54, 3) := by decide +kernel
theorem dX7_count_88 : decode cX7_count 88 = .ok (.getfield 307, 3) := by decide +kernel
theorem dX7_count_91 : decode cX7_count 91 = .ok (.ireturn, 1) := by decide +kernel
theorem dX7_count_92 : decode cX7_count 92 = .ok (.aload_n 0, 1) := by decide +kernel
theorem dX7_count_93 : decode cX7_count 93 = .ok (.getfield 54, 3) := by decide +kernel
theorem dX7_count_96 : decode cX7_count 96 = .ok (.getfield 313, 3) := by decide +kernel
theorem dX7_count_99 : decode cX7_count 99 = .ok (.ireturn, 1) := by decide +kernel
theorem dX7_count_100 : decode cX7_count 100 = .ok (.iconst (-1), 1) := by decide +kernel
theorem dX7_count_101 : decode cX7_count 101 = .ok (.ireturn, 1) := by decide +kernel
theorem dX7_isWorldNumber_0 : decode cX7_isWorldNumber 0 = .ok (.iload_n 1, 1) := by decide +kernel
theorem dX7_isWorldNumber_1 : decode cX7_isWorldNumber 1 = .ok (.ifCond .lt 18, 3) := by decide +kernel
theorem dX7_isWorldNumber_4 : decode cX7_isWorldNumber 4 = .ok (.iload_n 1, 1) := by decide +kernel
theorem dX7_isWorldNumber_5 : decode cX7_isWorldNumber 5 = .ok (.aload_n 0, 1) := by decide +kernel
theorem dX7_isWorldNumber_6 : decode cX7_isWorldNumber 6 = .ok (.getfield 21, 3) := by decide +kernel
theorem dX7_isWorldNumber_9 : decode cX7_isWorldNumber 9 = .ok (.getfield 69, 3) := by decide +kernel
theorem dX7_isWorldNumber_12 : decode cX7_isWorldNumber 12 = .ok (.if_icmp .ge 7, 3) := by decide +kernel
theorem dX7_isWorldNumber_15 : decode cX7_isWorldNumber 15 = .ok (.iconst 1, 1) := by decide +kernel
theorem dX7_isWorldNumber_16 : decode cX7_isWorldNumber 16 = .ok (.goto 4, 3) := by decide +kernel
theorem dX7_isWorldNumber_19 : decode cX7_isWorldNumber 19 = .ok (.iconst 0, 1) := by decide +kernel
theorem dX7_isWorldNumber_20 : decode cX7_isWorldNumber 20 = .ok (.ireturn, 1) := by decide +kernel
theorem dX7_isPair_0 : decode cX7_isPair 0 = .ok (.iload_n 1, 1) := by decide +kernel
theorem dX7_isPair_1 : decode cX7_isPair 1 = .ok (.ifCond .lt 46, 3) := by decide +kernel
theorem dX7_isPair_4 : decode cX7_isPair 4 = .ok (.iload_n 1, 1) := by decide +kernel
theorem dX7_isPair_5 : decode cX7_isPair 5 = .ok (.bipush 10, 2) := by decide +kernel
theorem dX7_isPair_7 : decode cX7_isPair 7 = .ok (.idiv, 1) := by decide +kernel
theorem dX7_isPair_8 : decode cX7_isPair 8 = .ok (.aload_n 0, 1) := by decide +kernel
theorem dX7_isPair_9 : decode cX7_isPair 9 = .ok (.getfield 21, 3) := by decide +kernel
theorem dX7_isPair_12 : decode cX7_isPair 12 = .ok (.getfield 69, 3) := by decide +kernel
theorem dX7_isPair_15 : decode cX7_isPair 15 = .ok (.if_icmp .ge 32, 3) := by decide +kernel
theorem dX7_isPair_18 : decode cX7_isPair 18 = .ok (.iload_n 1, 1) := by decide +kernel
theorem dX7_isPair_19 : decode cX7_isPair 19 = .ok (.bipush 10, 2) := by decide +kernel
theorem dX7_isPair_21 : decode cX7_isPair 21 = .ok (.irem, 1) := by decide +kernel
theorem dX7_isPair_22 : decode cX7_isPair 22 = .ok (.aload_n 0, 1) := by decide +kernel
theorem dX7_isPair_23 : decode cX7_isPair 23 = .ok (.getfield 21, 3) := by decide +kernel
theorem dX7_isPair_26 : decode cX7_isPair 26 = .ok (.getfield 69, 3) := by decide +kernel
theorem dX7_isPair_29 : decode cX7_isPair 29 = .ok (.if_icmp .ge 18, 3) := by decide +kernel
theorem dX7_isPair_32 : decode cX7_isPair 32 = .ok (.iload_n 1, 1) := by decide +kernel
theorem dX7_isPair_33 : decode cX7_isPair 33 = .ok (.bipush 10, 2) := by decide +kernel
theorem dX7_isPair_35 : decode cX7_isPair 35 = .ok (.idiv, 1) := by decide +kernel
theorem dX7_isPair_36 : decode cX7_isPair 36 = .ok (.iload_n 1, 1) := by decide +kernel
theorem dX7_isPair_37 : decode cX7_isPair 37 = .ok (.bipush 10, 2) := by decide +kernel
theorem dX7_isPair_39 : decode cX7_isPair 39 = .ok (.irem, 1) := by decide +kernel
theorem dX7_isPair_40 : decode cX7_isPair 40 = .ok (.if_icmp .eq 7, 3) := by decide +kernel
theorem dX7_isPair_43 : decode cX7_isPair 43 = .ok (.iconst 1, 1) := by decide +kernel
theorem dX7_isPair_44 : decode cX7_isPair 44 = .ok (.goto 4, 3) := by decide +kernel
theorem dX7_isPair_47 : decode cX7_isPair 47 = .ok (.iconst 0, 1) := by decide +kernel
theorem dX7_isPair_48 : decode cX7_isPair 48 = .ok (.ireturn, 1) := by decide +kernel
theorem dX7_isStep_0 : decode cX7_isStep 0 = .ok (.iload_n 0, 1) := by decide +kernel
theorem dX7_isStep_1 : decode cX7_isStep 1 = .ok (.ifCond .lt 14, 3) := by decide +kernel
theorem dX7_isStep_4 : decode cX7_isStep 4 = .ok (.iload_n 0, 1) := by decide +kernel
theorem dX7_isStep_5 : decode cX7_isStep 5 = .ok (.ldc_w 354, 3) := by decide +kernel
theorem dX7_isStep_8 : decode cX7_isStep 8 = .ok (.if_icmp .gt 7, 3) := by decide +kernel
theorem dX7_isStep_11 : decode cX7_isStep 11 = .ok (.iconst 1, 1) := by decide +kernel
theorem dX7_isStep_12 : decode cX7_isStep 12 = .ok (.goto 4, 3) := by decide +kernel
theorem dX7_isStep_15 : decode cX7_isStep 15 = .ok (.iconst 0, 1) := by decide +kernel
theorem dX7_isStep_16 : decode cX7_isStep 16 = .ok (.ireturn, 1) := by decide +kernel
theorem dX7_isShelf_0 : decode cX7_isShelf 0 = .ok (.iload_n 0, 1) := by decide +kernel
theorem dX7_isShelf_1 : decode cX7_isShelf 1 = .ok (.ifCond .lt 13, 3) := by decide +kernel
theorem dX7_isShelf_4 : decode cX7_isShelf 4 = .ok (.iload_n 0, 1) := by decide +kernel
theorem dX7_isShelf_5 : decode cX7_isShelf 5 = .ok (.bipush 6, 2) := by decide +kernel
theorem dX7_isShelf_7 : decode cX7_isShelf 7 = .ok (.if_icmp .ge 7, 3) := by decide +kernel
theorem dX7_isShelf_10 : decode cX7_isShelf 10 = .ok (.iconst 1, 1) := by decide +kernel
theorem dX7_isShelf_11 : decode cX7_isShelf 11 = .ok (.goto 4, 3) := by decide +kernel
theorem dX7_isShelf_14 : decode cX7_isShelf 14 = .ok (.iconst 0, 1) := by decide +kernel
theorem dX7_isShelf_15 : decode cX7_isShelf 15 = .ok (.ireturn, 1) := by decide +kernel
set_option maxRecDepth 100000 in
theorem ggX7_isMendable_X7_isWorldNumber : GoodIn wsX7_isMendable wsX7_isWorldNumber := goodIn_r _ [5, 6, 7, 8, 9, 10, 11, 12, 13, 14, 15, 16, 17, 18, 19, 20, 21, 22, 23, 24, 25, 26, 27, 28, 29] rfl gd_wsX7_isWorldNumber
set_option maxRecDepth 100000 in
theorem gX7_isMendable_X7_isWorldNumber : GoodIn wsX7_isMendable (wsV RX7 122 RX7 yX7_isWorldNumber wsX7_isWorldNumber) := goodIn_app (goodIn_r _ [1, 2, 3, 4] rfl (by decide +kernel)) ggX7_isMendable_X7_isWorldNumber
theorem dX7_isMendable_0 : decode cX7_isMendable 0 = .ok (.iload_n 2, 1) := by decide +kernel
theorem dX7_isMendable_1 : decode cX7_isMendable 1 = .ok (.iconst 3, 1) := by decide +kernel
theorem dX7_isMendable_2 : decode cX7_isMendable 2 = .ok (.if_icmp .eq 8, 3) := by decide +kernel
theorem dX7_isMendable_5 : decode cX7_isMendable 5 = .ok (.iload_n 2, 1) := by decide +kernel
theorem dX7_isMendable_6 : decode cX7_isMendable 6 = .ok (.iconst 4, 1) := by decide +kernel
theorem dX7_isMendable_7 : decode cX7_isMendable 7 = .ok (.if_icmp .ne 13, 3) := by decide +kernel
theorem dX7_isMendable_10 : decode cX7_isMendable 10 = .ok (.iload_n 1, 1) := by decide +kernel
theorem dX7_isMendable_11 : decode cX7_isMendable 11 = .ok (.ifCond .ne 7, 3) := by decide +kernel
theorem dX7_isMendable_14 : decode cX7_isMendable 14 = .ok (.iconst 1, 1) := by decide +kernel
theorem dX7_isMendable_15 : decode cX7_isMendable 15 = .ok (.goto 4, 3) := by decide +kernel
theorem dX7_isMendable_18 : decode cX7_isMendable 18 = .ok (.iconst 0, 1) := by decide +kernel
theorem dX7_isMendable_19 : decode cX7_isMendable 19 = .ok (.ireturn, 1) := by decide +kernel
theorem dX7_isMendable_20 : decode cX7_isMendable 20 = .ok (.iload_n 2, 1) := by decide +kernel
theorem dX7_isMendable_21 : decode cX7_isMendable 21 = .ok (.ifCond .lt 20, 3) := by decide +kernel
theorem dX7_isMendable_24 : decode cX7_isMendable 24 = .ok (.iload_n 2, 1) := by decide +kernel
theorem dX7_isMendable_25 : decode cX7_isMendable 25 = .ok (.iconst 3, 1) := by decide +kernel
theorem dX7_isMendable_26 : decode cX7_isMendable 26 = .ok (.if_icmp .ge 15, 3) := by decide +kernel
theorem dX7_isMendable_29 : decode cX7_isMendable 29 = .ok (.aload_n 0, 1) := by decide +kernel
theorem dX7_isMendable_30 : decode cX7_isMendable 30 = .ok (.iload_n 1, 1) := by decide +kernel
theorem dX7_isMendable_31 : decode cX7_isMendable 31 = .ok (.invokevirtual 122, 3) := by decide +kernel
theorem dX7_isMendable_34 : decode cX7_isMendable 34 = .ok (.ifCond .eq 7, 3) := by decide +kernel
theorem dX7_isMendable_37 : decode cX7_isMendable 37 = .ok (.iconst 1, 1) := by decide +kernel
theorem dX7_isMendable_38 : decode cX7_isMendable 38 = .ok (.goto 4, 3) := by decide +kernel
theorem dX7_isMendable_41 : decode cX7_isMendable 41 = .ok (.iconst 0, 1) := by decide +kernel
theorem dX7_isMendable_42 : decode cX7_isMendable 42 = .ok (.ireturn, 1) := by decide +kernel
theorem dX7_isFit_0 : decode cX7_isFit 0 = .ok (.iload_n 2, 1) := by decide +kernel
theorem dX7_isFit_1 : decode cX7_isFit 1 = .ok (.tableswitch 105 0 3 #[31, 48, 71, 88], 31) := by decide +kernel
theorem dX7_isFit_32 : decode cX7_isFit 32 = .ok (.iload_n 3, 1) := by decide +kernel
theorem dX7_isFit_33 : decode cX7_isFit 33 = .ok (.iconst 1, 1) := by decide +kernel
theorem dX7_isFit_34 : decode cX7_isFit 34 = .ok (.if_icmp .lt 13, 3) := by decide +kernel
theorem dX7_isFit_37 : decode cX7_isFit 37 = .ok (.iload_n 3, 1) := by decide +kernel
theorem dX7_isFit_38 : decode cX7_isFit 38 = .ok (.bipush 12, 2) := by decide +kernel
theorem dX7_isFit_40 : decode cX7_isFit 40 = .ok (.if_icmp .gt 7, 3) := by decide +kernel
theorem dX7_isFit_43 : decode cX7_isFit 43 = .ok (.iconst 1, 1) := by decide +kernel
theorem dX7_isFit_44 : decode cX7_isFit 44 = .ok (.goto 4, 3) := by decide +kernel
theorem dX7_isFit_47 : decode cX7_isFit 47 = .ok (.iconst 0, 1) := by decide +kernel
theorem dX7_isFit_48 : decode cX7_isFit 48 = .ok (.ireturn, 1) := by decide +kernel
theorem dX7_isFit_49 : decode cX7_isFit 49 = .ok (.iload_n 3, 1) := by decide +kernel
theorem dX7_isFit_50 : decode cX7_isFit 50 = .ok (.ifCond .lt 20, 3) := by decide +kernel
theorem dX7_isFit_53 : decode cX7_isFit 53 = .ok (.iload_n 3, 1) := by decide +kernel
theorem dX7_isFit_54 : decode cX7_isFit 54 = .ok (.aload_n 0, 1) := by decide +kernel
theorem dX7_isFit_55 : decode cX7_isFit 55 = .ok (.getfield 21, 3) := by decide +kernel
theorem dX7_isFit_58 : decode cX7_isFit 58 = .ok (.getfield 355, 3) := by decide +kernel
theorem dX7_isFit_61 : decode cX7_isFit 61 = .ok (.iload_n 1, 1) := by decide +kernel
theorem dX7_isFit_62 : decode cX7_isFit 62 = .ok (.iaload, 1) := by decide +kernel
theorem dX7_isFit_63 : decode cX7_isFit 63 = .ok (.if_icmp .ge 7, 3) := by decide +kernel
theorem dX7_isFit_66 : decode cX7_isFit 66 = .ok (.iconst 1, 1) := by decide +kernel
theorem dX7_isFit_67 : decode cX7_isFit 67 = .ok (.goto 4, 3) := by decide +kernel
theorem dX7_isFit_70 : decode cX7_isFit 70 = .ok (.iconst 0, 1) := by decide +kernel
theorem dX7_isFit_71 : decode cX7_isFit 71 = .ok (.ireturn, 1) := by decide +kernel
theorem dX7_isFit_72 : decode cX7_isFit 72 = .ok (.iload_n 3, 1) := by decide +kernel
theorem dX7_isFit_73 : decode cX7_isFit 73 = .ok (.iconst 1, 1) := by decide +kernel
theorem dX7_isFit_74 : decode cX7_isFit 74 = .ok (.if_icmp .lt 13, 3) := by decide +kernel
theorem dX7_isFit_77 : decode cX7_isFit 77 = .ok (.iload_n 3, 1) := by decide +kernel
theorem dX7_isFit_78 : decode cX7_isFit 78 = .ok (.bipush 9, 2) := by decide +kernel
theorem dX7_isFit_80 : decode cX7_isFit 80 = .ok (.if_icmp .gt 7, 3) := by decide +kernel
theorem dX7_isFit_83 : decode cX7_isFit 83 = .ok (.iconst 1, 1) := by decide +kernel
theorem dX7_isFit_84 : decode cX7_isFit 84 = .ok (.goto 4, 3) := by decide +kernel
theorem dX7_isFit_87 : decode cX7_isFit 87 = .ok (.iconst 0, 1) := by decide +kernel
theorem dX7_isFit_88 : decode cX7_isFit 88 = .ok (.ireturn, 1) := by decide +kernel
theorem dX7_isFit_89 : decode cX7_isFit 89 = .ok (.iload_n 3, 1) := by decide +kernel
theorem dX7_isFit_90 : decode cX7_isFit 90 = .ok (.ifCond .lt 14, 3) := by decide +kernel
theorem dX7_isFit_93 : decode cX7_isFit 93 = .ok (.iload_n 3, 1) := by decide +kernel
theorem dX7_isFit_94 : decode cX7_isFit 94 = .ok (.sipush 180, 3) := by decide +kernel
theorem dX7_isFit_97 : decode cX7_isFit 97 = .ok (.if_icmp .gt 7, 3) := by decide +kernel
theorem dX7_isFit_100 : decode cX7_isFit 100 = .ok (.iconst 1, 1) := by decide +kernel
theorem dX7_isFit_101 : decode cX7_isFit 101 = .ok (.goto 4, 3) := by decide +kernel
theorem dX7_isFit_104 : decode cX7_isFit 104 = .ok (.iconst 0, 1) := by decide +kernel
theorem dX7_isFit_105 : decode cX7_isFit 105 = .ok (.ireturn, 1) := by decide +kernel
theorem dX7_isFit_106 : decode cX7_isFit 106 = .ok (.iload_n 3, 1) := by decide +kernel
theorem dX7_isFit_107 : decode cX7_isFit 107 = .ok (.ifCond .lt 13, 3) := by decide +kernel
theorem dX7_isFit_110 : decode cX7_isFit 110 = .ok (.iload_n 3, 1) := by decide +kernel
theorem dX7_isFit_111 : decode cX7_isFit 111 = .ok (.bipush 12, 2) := by decide +kernel
theorem dX7_isFit_113 : decode cX7_isFit 113 = .ok (.if_icmp .ge 7, 3) := by decide +kernel
theorem dX7_isFit_116 : decode cX7_isFit 116 = .ok (.iconst 1, 1) := by decide +kernel
theorem dX7_isFit_117 : decode cX7_isFit 117 = .ok (.goto 4, 3) := by decide +kernel
theorem dX7_isFit_120 : decode cX7_isFit 120 = .ok (.iconst 0, 1) := by decide +kernel
theorem dX7_isFit_121 : decode cX7_isFit 121 = .ok (.ireturn, 1) := by decide +kernel
theorem dX7_told_0 : decode cX7_told 0 = .ok (.iload_n 2, 1) := by decide +kernel
theorem dX7_told_1 : decode cX7_told 1 = .ok (.tableswitch 69 0 3 #[31, 41, 51, 61], 31) := by decide +kernel
theorem dX7_told_32 : decode cX7_told 32 = .ok (.aload_n 0, 1) := by decide +kernel
theorem dX7_told_33 : decode cX7_told 33 = .ok (.getfield 21, 3) := by decide +kernel
theorem dX7_told_36 : decode cX7_told 36 = .ok (.getfield 355, 3) := by decide +kernel
theorem dX7_told_39 : decode cX7_told 39 = .ok (.iload_n 1, 1) := by decide +kernel
theorem dX7_told_40 : decode cX7_told 40 = .ok (.iaload, 1) := by decide +kernel
theorem dX7_told_41 : decode cX7_told 41 = .ok (.ireturn, 1) := by decide +kernel
theorem dX7_told_42 : decode cX7_told 42 = .ok (.aload_n 0, 1) := by decide +kernel
theorem dX7_told_43 : decode cX7_told 43 = .ok (.getfield 21, 3) := by decide +kernel
theorem dX7_told_46 : decode cX7_told 46 = .ok (.getfield 358, 3) := by decide +kernel
theorem dX7_told_49 : decode cX7_told 49 = .ok (.iload_n 1, 1) := by decide +kernel
theorem dX7_told_50 : decode cX7_told 50 = .ok (.iaload, 1) := by decide +kernel
theorem dX7_told_51 : decode cX7_told 51 = .ok (.ireturn, 1) := by decide +kernel
theorem dX7_told_52 : decode cX7_told 52 = .ok (.aload_n 0, 1) := by decide +kernel
theorem dX7_told_53 : decode cX7_told 53 = .ok (.getfield 21, 3) := by decide +kernel
theorem dX7_told_56 : decode cX7_told 56 = .ok (.getfield 361, 3) := by decide +kernel
theorem dX7_told_59 : decode cX7_told 59 = .ok (.iload_n 1, 1) := by decide +kernel
theorem dX7_told_60 : decode cX7_told 60 = .ok (.iaload, 1) := by decide +kernel
theorem dX7_told_61 : decode cX7_told 61 = .ok (.ireturn, 1) := by decide +kernel
theorem dX7_told_62 : decode cX7_told 62 = .ok (.aload_n 0, 1) := by decide +kernel
theorem dX7_told_63 : decode cX7_told 63 = .ok (.getfield 21, 3) := by decide +kernel
theorem dX7_told_66 : decode cX7_told 66 = .ok (.getfield 364, 3) := by decide +kernel
theorem dX7_told_69 : decode cX7_told 69 = .ok (.ireturn, 1) := by decide +kernel
theorem dX7_told_70 : decode cX7_told 70 = .ok (.aload_n 0, 1) := by decide +kernel
theorem dX7_told_71 : decode cX7_told 71 = .ok (.getfield 226, 3) := by decide +kernel
theorem dX7_told_74 : decode cX7_told 74 = .ok (.ireturn, 1) := by decide +kernel
set_option maxRecDepth 100000 in
theorem ggX7_tell_X5_forgetAll : GoodIn wsX7_tell wsX5_forgetAll := goodIn_r _ [11, 12, 13, 14, 15, 16, 17, 18, 40, 41, 42, 43, 44, 45, 46, 47, 48, 49, 50] rfl gd_wsX5_forgetAll
set_option maxRecDepth 100000 in
theorem gX7_tell_X5_forgetAll : GoodIn wsX7_tell (wsV RX7 138 RX5 yX5_forgetAll wsX5_forgetAll) := goodIn_app (goodIn_r _ [7, 8, 9, 10] rfl (by decide +kernel)) ggX7_tell_X5_forgetAll
set_option maxRecDepth 100000 in
theorem ggX7_tell_X5_forgetWorld : GoodIn wsX7_tell wsX5_forgetWorld := goodIn_r _ [22, 23, 24, 13, 14, 25, 26, 27, 10, 28, 12, 40, 41, 42, 43, 44, 45, 46, 47, 48, 49, 50] rfl gd_wsX5_forgetWorld
set_option maxRecDepth 100000 in
theorem gX7_tell_X5_forgetWorld : GoodIn wsX7_tell (wsV RX7 367 RX5 yX5_forgetWorld wsX5_forgetWorld) := goodIn_app (goodIn_r _ [19, 20, 21, 10] rfl (by decide +kernel)) ggX7_tell_X5_forgetWorld
theorem dX7_tell_0 : decode cX7_tell 0 = .ok (.iload_n 2, 1) := by decide +kernel
theorem dX7_tell_1 : decode cX7_tell 1 = .ok (.tableswitch 81 0 3 #[31, 44, 57, 70], 31) := by decide +kernel
theorem dX7_tell_32 : decode cX7_tell 32 = .ok (.aload_n 0, 1) := by decide +kernel
theorem dX7_tell_33 : decode cX7_tell 33 = .ok (.getfield 21, 3) := by decide +kernel
theorem dX7_tell_36 : decode cX7_tell 36 = .ok (.getfield 355, 3) := by decide +kernel
theorem dX7_tell_39 : decode cX7_tell 39 = .ok (.iload_n 1, 1) := by decide +kernel
theorem dX7_tell_40 : decode cX7_tell 40 = .ok (.iload_n 3, 1) := by decide +kernel
theorem dX7_tell_41 : decode cX7_tell 41 = .ok (.iastore, 1) := by decide +kernel
theorem dX7_tell_42 : decode cX7_tell 42 = .ok (.goto 45, 3) := by decide +kernel
theorem dX7_tell_45 : decode cX7_tell 45 = .ok (.aload_n 0, 1) := by decide +kernel
theorem dX7_tell_46 : decode cX7_tell 46 = .ok (.getfield 21, 3) := by decide +kernel
theorem dX7_tell_49 : decode cX7_tell 49 = .ok (.getfield 358, 3) := by decide +kernel
theorem dX7_tell_52 : decode cX7_tell 52 = .ok (.iload_n 1, 1) := by decide +kernel
theorem dX7_tell_53 : decode cX7_tell 53 = .ok (.iload_n 3, 1) := by decide +kernel
theorem dX7_tell_54 : decode cX7_tell 54 = .ok (.iastore, 1) := by decide +kernel
theorem dX7_tell_55 : decode cX7_tell 55 = .ok (.goto 32, 3) := by decide +kernel
theorem dX7_tell_58 : decode cX7_tell 58 = .ok (.aload_n 0, 1) := by decide +kernel
theorem dX7_tell_59 : decode cX7_tell 59 = .ok (.getfield 21, 3) := by decide +kernel
theorem dX7_tell_62 : decode cX7_tell 62 = .ok (.getfield 361, 3) := by decide +kernel
theorem dX7_tell_65 : decode cX7_tell 65 = .ok (.iload_n 1, 1) := by decide +kernel
theorem dX7_tell_66 : decode cX7_tell 66 = .ok (.iload_n 3, 1) := by decide +kernel
theorem dX7_tell_67 : decode cX7_tell 67 = .ok (.iastore, 1) := by decide +kernel
theorem dX7_tell_68 : decode cX7_tell 68 = .ok (.goto 19, 3) := by decide +kernel
theorem dX7_tell_71 : decode cX7_tell 71 = .ok (.aload_n 0, 1) := by decide +kernel
theorem dX7_tell_72 : decode cX7_tell 72 = .ok (.getfield 21, 3) := by decide +kernel
theorem dX7_tell_75 : decode cX7_tell 75 = .ok (.iload_n 3, 1) := by decide +kernel
theorem dX7_tell_76 : decode cX7_tell 76 = .ok (.putfield 364, 3) := by decide +kernel
theorem dX7_tell_79 : decode cX7_tell 79 = .ok (.goto 8, 3) := by decide +kernel
theorem dX7_tell_82 : decode cX7_tell 82 = .ok (.aload_n 0, 1) := by decide +kernel
theorem dX7_tell_83 : decode cX7_tell 83 = .ok (.iload_n 3, 1) := by decide +kernel
theorem dX7_tell_84 : decode cX7_tell 84 = .ok (.putfield 226, 3) := by decide +kernel
theorem dX7_tell_87 : decode cX7_tell 87 = .ok (.iload_n 2, 1) := by decide +kernel
theorem dX7_tell_88 : decode cX7_tell 88 = .ok (.iconst 3, 1) := by decide +kernel
theorem dX7_tell_89 : decode cX7_tell 89 = .ok (.if_icmp .ne 13, 3) := by decide +kernel
theorem dX7_tell_92 : decode cX7_tell 92 = .ok (.aload_n 0, 1) := by decide +kernel
theorem dX7_tell_93 : decode cX7_tell 93 = .ok (.getfield 21, 3) := by decide +kernel
theorem dX7_tell_96 : decode cX7_tell 96 = .ok (.invokevirtual 138, 3) := by decide +kernel
theorem dX7_tell_99 : decode cX7_tell 99 = .ok (.goto 16, 3) := by decide +kernel
theorem dX7_tell_102 : decode cX7_tell 102 = .ok (.iload_n 2, 1) := by decide +kernel
theorem dX7_tell_103 : decode cX7_tell 103 = .ok (.iconst 3, 1) := by decide +kernel
theorem dX7_tell_104 : decode cX7_tell 104 = .ok (.if_icmp .ge 11, 3) := by decide +kernel
theorem dX7_tell_107 : decode cX7_tell 107 = .ok (.aload_n 0, 1) := by decide +kernel
theorem dX7_tell_108 : decode cX7_tell 108 = .ok (.getfield 21, 3) := by decide +kernel
theorem dX7_tell_111 : decode cX7_tell 111 = .ok (.iload_n 1, 1) := by decide +kernel
theorem dX7_tell_112 : decode cX7_tell 112 = .ok (.invokevirtual 367, 3) := by decide +kernel
theorem dX7_tell_115 : decode cX7_tell 115 = .ok (.return_, 1) := by decide +kernel
set_option maxRecDepth 100000 in
theorem ggX7_ofWorld_X7_told : GoodIn wsX7_ofWorld wsX7_told := goodIn_r _ [9, 1, 10, 11, 12, 13, 14, 32, 33, 34, 35, 36, 37, 38, 39, 40, 41, 42, 50, 51, 52, 53, 54, 55, 56, 57, 58, 59, 60] rfl gd_wsX7_told
set_option maxRecDepth 100000 in
theorem gX7_ofWorld_X7_told : GoodIn wsX7_ofWorld (wsV RX7 102 RX7 yX7_told wsX7_told) := goodIn_app (goodIn_r _ [5, 6, 7, 8] rfl (by decide +kernel)) ggX7_ofWorld_X7_told
set_option maxRecDepth 100000 in
theorem ggX7_ofWorld_X5_placeAt : GoodIn wsX7_ofWorld wsX5_placeAt := goodIn_r _ [19, 20, 21, 22, 18, 23, 24, 25, 26, 8, 27, 28, 29, 30, 31, 50, 51, 52, 53, 54, 55, 56, 57, 58, 59, 60] rfl gd_wsX5_placeAt
set_option maxRecDepth 100000 in
theorem gX7_ofWorld_X5_placeAt : GoodIn wsX7_ofWorld (wsV RX7 144 RX5 yX5_placeAt wsX5_placeAt) := goodIn_app (goodIn_r _ [15, 16, 17, 18] rfl (by decide +kernel)) ggX7_ofWorld_X5_placeAt
theorem dX7_ofWorld_0 : decode cX7_ofWorld 0 = .ok (.iload_n 2, 1) := by decide +kernel
theorem dX7_ofWorld_1 : decode cX7_ofWorld 1 = .ok (.tableswitch 68 0 4 #[35, 35, 35, 42, 58], 35) := by decide +kernel
theorem dX7_ofWorld_36 : decode cX7_ofWorld 36 = .ok (.aload_n 0, 1) := by decide +kernel
theorem dX7_ofWorld_37 : decode cX7_ofWorld 37 = .ok (.iload_n 1, 1) := by decide +kernel
theorem dX7_ofWorld_38 : decode cX7_ofWorld 38 = .ok (.iload_n 2, 1) := by decide +kernel
theorem dX7_ofWorld_39 : decode cX7_ofWorld 39 = .ok (.invokevirtual 102, 3) := by decide +kernel
theorem dX7_ofWorld_42 : decode cX7_ofWorld 42 = .ok (.ireturn, 1) := by decide +kernel
theorem dX7_ofWorld_43 : decode cX7_ofWorld 43 = .ok (.aload_n 0, 1) := by decide +kernel
theorem dX7_ofWorld_44 : decode cX7_ofWorld 44 = .ok (.getfield 21, 3) := by decide +kernel
theorem dX7_ofWorld_47 : decode cX7_ofWorld 47 = .ok (.iload_n 1, 1) := by decide +kernel
theorem dX7_ofWorld_48 : decode cX7_ofWorld 48 = .ok (.aload_n 0, 1) := by decide +kernel
theorem dX7_ofWorld_49 : decode cX7_ofWorld 49 = .ok (.getfield 44, 3) := by decide +kernel
theorem dX7_ofWorld_52 : decode cX7_ofWorld 52 = .ok (.getfield 264, 3) := by decide +kernel
theorem dX7_ofWorld_55 : decode cX7_ofWorld 55 = .ok (.invokevirtual 144, 3) := by decide +kernel
theorem dX7_ofWorld_58 : decode cX7_ofWorld 58 = .ok (.ireturn, 1) := by decide +kernel
theorem dX7_ofWorld_59 : decode cX7_ofWorld 59 = .ok (.aload_n 0, 1) := by decide +kernel
theorem dX7_ofWorld_60 : decode cX7_ofWorld 60 = .ok (.getfield 44, 3) := by decide +kernel
theorem dX7_ofWorld_63 : decode cX7_ofWorld 63 = .ok (.getfield 370, 3) := by decide +kernel
theorem dX7_ofWorld_66 : decode cX7_ofWorld 66 = .ok (.iload_n 1, 1) := by decide +kernel
theorem dX7_ofWorld_67 : decode cX7_ofWorld 67 = .ok (.iaload, 1) := by decide +kernel
theorem dX7_ofWorld_68 : decode cX7_ofWorld 68 = .ok (.ireturn, 1) := by decide +kernel
theorem dX7_ofWorld_69 : decode cX7_ofWorld 69 = .ok (.iconst (-1), 1) := by decide +kernel
theorem dX7_ofWorld_70 : decode cX7_ofWorld 70 = .ok (.ireturn, 1) := by decide +kernel
set_option maxRecDepth 100000 in
theorem ggX7_ofTheWhole_X5_round : GoodIn wsX7_ofTheWhole wsX5_round := goodIn_r _ [10, 11, 12, 13, 14, 15, 16, 17, 18, 30, 31, 32, 33, 34, 35, 36, 37, 38, 39, 40] rfl gd_wsX5_round
set_option maxRecDepth 100000 in
theorem gX7_ofTheWhole_X5_round : GoodIn wsX7_ofTheWhole (wsV RX7 168 RX5 yX5_round wsX5_round) := goodIn_app (goodIn_r _ [6, 7, 8, 9] rfl (by decide +kernel)) ggX7_ofTheWhole_X5_round
theorem dX7_ofTheWhole_0 : decode cX7_ofTheWhole 0 = .ok (.iload_n 1, 1) := by decide +kernel
theorem dX7_ofTheWhole_1 : decode cX7_ofTheWhole 1 = .ok (.tableswitch 60 20 23 #[31, 39, 44, 52], 31) := by decide +kernel
theorem dX7_ofTheWhole_32 : decode cX7_ofTheWhole 32 = .ok (.aload_n 0, 1) := by decide +kernel
theorem dX7_ofTheWhole_33 : decode cX7_ofTheWhole 33 = .ok (.getfield 21, 3) := by decide +kernel
theorem dX7_ofTheWhole_36 : decode cX7_ofTheWhole 36 = .ok (.getfield 364, 3) := by decide +kernel
theorem dX7_ofTheWhole_39 : decode cX7_ofTheWhole 39 = .ok (.ireturn, 1) := by decide +kernel
theorem dX7_ofTheWhole_40 : decode cX7_ofTheWhole 40 = .ok (.aload_n 0, 1) := by decide +kernel
theorem dX7_ofTheWhole_41 : decode cX7_ofTheWhole 41 = .ok (.getfield 226, 3) := by decide +kernel
theorem dX7_ofTheWhole_44 : decode cX7_ofTheWhole 44 = .ok (.ireturn, 1) := by decide +kernel
theorem dX7_ofTheWhole_45 : decode cX7_ofTheWhole 45 = .ok (.aload_n 0, 1) := by decide +kernel
theorem dX7_ofTheWhole_46 : decode cX7_ofTheWhole 46 = .ok (.getfield 44, 3) := by decide +kernel
theorem dX7_ofTheWhole_49 : decode cX7_ofTheWhole 49 = .ok (.getfield 264, 3) := by decide +kernel
theorem dX7_ofTheWhole_52 : decode cX7_ofTheWhole 52 = .ok (.ireturn, 1) := by decide +kernel
theorem dX7_ofTheWhole_53 : decode cX7_ofTheWhole 53 = .ok (.aload_n 0, 1) := by decide +kernel
theorem dX7_ofTheWhole_54 : decode cX7_ofTheWhole 54 = .ok (.getfield 21, 3) := by decide +kernel
theorem dX7_ofTheWhole_57 : decode cX7_ofTheWhole 57 = .ok (.invokevirtual 168, 3) := by decide +kernel
theorem dX7_ofTheWhole_60 : decode cX7_ofTheWhole 60 = .ok (.ireturn, 1) := by decide +kernel
theorem dX7_ofTheWhole_61 : decode cX7_ofTheWhole 61 = .ok (.iconst (-1), 1) := by decide +kernel
theorem dX7_ofTheWhole_62 : decode cX7_ofTheWhole 62 = .ok (.ireturn, 1) := by decide +kernel
set_option maxRecDepth 100000 in
theorem ggX7_nextOfAll_X5_round : GoodIn wsX7_nextOfAll wsX5_round := goodIn_r _ [6, 7, 8, 9, 10, 11, 12, 13, 14, 92, 93, 94, 95, 96, 97, 98, 99, 100, 101, 102] rfl gd_wsX5_round
set_option maxRecDepth 100000 in
theorem gX7_nextOfAll_X5_round : GoodIn wsX7_nextOfAll (wsV RX7 168 RX5 yX5_round wsX5_round) := goodIn_app (goodIn_r _ [2, 3, 4, 5] rfl (by decide +kernel)) ggX7_nextOfAll_X5_round
set_option maxRecDepth 100000 in
theorem ggX7_nextOfAll_X5_turnTo : GoodIn wsX7_nextOfAll wsX5_turnTo := goodIn_r _ [18, 7, 19, 20, 21, 22, 5, 23, 24, 8, 25, 10, 26, 92, 93, 94, 95, 96, 97, 98, 99, 100, 101, 102] rfl gd_wsX5_turnTo
set_option maxRecDepth 100000 in
theorem gX7_nextOfAll_X5_turnTo : GoodIn wsX7_nextOfAll (wsV RX7 171 RX5 yX5_turnTo wsX5_turnTo) := goodIn_app (goodIn_r _ [15, 16, 17, 5] rfl (by decide +kernel)) ggX7_nextOfAll_X5_turnTo
set_option maxRecDepth 100000 in
theorem ggX7_nextOfAll_X5_allMeet : GoodIn wsX7_nextOfAll wsX5_allMeet := goodIn_r _ [30, 7, 19, 31, 32, 33, 5, 34, 35, 36, 37, 38, 39, 40, 41, 42, 43, 44, 45, 46, 47, 48, 49, 50, 51, 52, 53, 54, 55, 56, 8, 57, 58, 59, 60, 61, 62, 63, 64, 65, 66, 67, 68, 69, 70, 71, 72, 73, 74, 75, 76, 92, 93, 94, 95, 96, 97, 98, 99, 100, 101, 102, 103, 104, 105, 106, 107, 108, 109, 110, 111, 112, 113, 114] rfl gd_wsX5_allMeet
set_option maxRecDepth 100000 in
theorem gX7_nextOfAll_X5_allMeet : GoodIn wsX7_nextOfAll (wsV RX7 175 RX5 yX5_allMeet wsX5_allMeet) := goodIn_app (goodIn_r _ [27, 28, 29, 5] rfl (by decide +kernel)) ggX7_nextOfAll_X5_allMeet
set_option maxRecDepth 100000 in
theorem ggX7_nextOfAll_X5_forward : GoodIn wsX7_nextOfAll wsX5_forward := goodIn_r _ [80, 7, 19, 8, 92, 93, 94, 95, 96, 97, 98, 99, 100, 101, 102] rfl gd_wsX5_forward
set_option maxRecDepth 100000 in
theorem gX7_nextOfAll_X5_forward : GoodIn wsX7_nextOfAll (wsV RX7 178 RX5 yX5_forward wsX5_forward) := goodIn_app (goodIn_r _ [77, 78, 79, 5] rfl (by decide +kernel)) ggX7_nextOfAll_X5_forward
theorem dX7_nextOfAll_0 : decode cX7_nextOfAll 0 = .ok (.aload_n 0, 1) := by decide +kernel
theorem dX7_nextOfAll_1 : decode cX7_nextOfAll 1 = .ok (.getfield 21, 3) := by decide +kernel
theorem dX7_nextOfAll_4 : decode cX7_nextOfAll 4 = .ok (.invokevirtual 168, 3) := by decide +kernel
theorem dX7_nextOfAll_7 : decode cX7_nextOfAll 7 = .ok (.istore_n 2, 1) := by decide +kernel
theorem dX7_nextOfAll_8 : decode cX7_nextOfAll 8 = .ok (.aload_n 0, 1) := by decide +kernel
theorem dX7_nextOfAll_9 : decode cX7_nextOfAll 9 = .ok (.getfield 21, 3) := by decide +kernel
theorem dX7_nextOfAll_12 : decode cX7_nextOfAll 12 = .ok (.iload_n 1, 1) := by decide +kernel
theorem dX7_nextOfAll_13 : decode cX7_nextOfAll 13 = .ok (.invokevirtual 171, 3) := by decide +kernel
theorem dX7_nextOfAll_16 : decode cX7_nextOfAll 16 = .ok (.iconst 0, 1) := by decide +kernel
theorem dX7_nextOfAll_17 : decode cX7_nextOfAll 17 = .ok (.istore_n 3, 1) := by decide +kernel
theorem dX7_nextOfAll_18 : decode cX7_nextOfAll 18 = .ok (.iload_n 3, 1) := by decide +kernel
theorem dX7_nextOfAll_19 : decode cX7_nextOfAll 19 = .ok (.iload_n 2, 1) := by decide +kernel
theorem dX7_nextOfAll_20 : decode cX7_nextOfAll 20 = .ok (.if_icmp .ge 30, 3) := by decide +kernel
theorem dX7_nextOfAll_23 : decode cX7_nextOfAll 23 = .ok (.aload_n 0, 1) := by decide +kernel
theorem dX7_nextOfAll_24 : decode cX7_nextOfAll 24 = .ok (.getfield 21, 3) := by decide +kernel
theorem dX7_nextOfAll_27 : decode cX7_nextOfAll 27 = .ok (.invokevirtual 175, 3) := by decide +kernel
theorem dX7_nextOfAll_30 : decode cX7_nextOfAll 30 = .ok (.ifCond .eq 7, 3) := by decide +kernel
theorem dX7_nextOfAll_33 : decode cX7_nextOfAll 33 = .ok (.iload_n 1, 1) := by decide +kernel
theorem dX7_nextOfAll_34 : decode cX7_nextOfAll 34 = .ok (.iload_n 3, 1) := by decide +kernel
theorem dX7_nextOfAll_35 : decode cX7_nextOfAll 35 = .ok (.iadd, 1) := by decide +kernel
theorem dX7_nextOfAll_36 : decode cX7_nextOfAll 36 = .ok (.ireturn, 1) := by decide +kernel
theorem dX7_nextOfAll_37 : decode cX7_nextOfAll 37 = .ok (.aload_n 0, 1) := by decide +kernel
theorem dX7_nextOfAll_38 : decode cX7_nextOfAll 38 = .ok (.getfield 21, 3) := by decide +kernel
theorem dX7_nextOfAll_41 : decode cX7_nextOfAll 41 = .ok (.invokevirtual 178, 3) := by decide +kernel
theorem dX7_nextOfAll_44 : decode cX7_nextOfAll 44 = .ok (.iinc 3 1, 3) := by decide +kernel
theorem dX7_nextOfAll_47 : decode cX7_nextOfAll 47 = .ok (.goto (-29), 3) := by decide +kernel
theorem dX7_nextOfAll_50 : decode cX7_nextOfAll 50 = .ok (.bipush (-2), 2) := by decide +kernel
theorem dX7_nextOfAll_52 : decode cX7_nextOfAll 52 = .ok (.ireturn, 1) := by decide +kernel
set_option maxRecDepth 100000 in
theorem ggX7_refusalOfBook_X7_isShelf : GoodIn wsX7_refusalOfBook wsX7_isShelf := goodIn_r _ [5] rfl gd_wsX7_isShelf
set_option maxRecDepth 100000 in
theorem gX7_refusalOfBook_X7_isShelf : GoodIn wsX7_refusalOfBook (va_wsS RX7 77 yX7_isShelf wsX7_isShelf) := goodIn_app (goodIn_r _ [2, 3, 4] rfl (by decide +kernel)) ggX7_refusalOfBook_X7_isShelf
set_option maxRecDepth 100000 in
theorem ggX7_refusalOfBook_X4_holdsNothing : GoodIn wsX7_refusalOfBook wsX4_holdsNothing := goodIn_r _ [10, 11, 12, 28, 29, 30, 31] rfl gd_wsX4_holdsNothing
set_option maxRecDepth 100000 in
theorem gX7_refusalOfBook_X4_holdsNothing : GoodIn wsX7_refusalOfBook (wsV RX7 81 RX4 yX4_holdsNothing wsX4_holdsNothing) := goodIn_app (goodIn_r _ [6, 7, 8, 9] rfl (by decide +kernel)) ggX7_refusalOfBook_X4_holdsNothing
set_option maxRecDepth 100000 in
theorem ggX7_refusalOfBook_X4_holdsRowOf : GoodIn wsX7_refusalOfBook wsX4_holdsRowOf := goodIn_r _ [16, 11, 28, 29, 30, 31] rfl gd_wsX4_holdsRowOf
set_option maxRecDepth 100000 in
theorem gX7_refusalOfBook_X4_holdsRowOf : GoodIn wsX7_refusalOfBook (wsV RX7 85 RX4 yX4_holdsRowOf wsX4_holdsRowOf) := goodIn_app (goodIn_r _ [13, 14, 15, 9] rfl (by decide +kernel)) ggX7_refusalOfBook_X4_holdsRowOf
theorem dX7_refusalOfBook_0 : decode cX7_refusalOfBook 0 = .ok (.iload_n 1, 1) := by decide +kernel
theorem dX7_refusalOfBook_1 : decode cX7_refusalOfBook 1 = .ok (.invokestatic 77, 3) := by decide +kernel
theorem dX7_refusalOfBook_4 : decode cX7_refusalOfBook 4 = .ok (.ifCond .ne 5, 3) := by decide +kernel
theorem dX7_refusalOfBook_7 : decode cX7_refusalOfBook 7 = .ok (.iconst (-1), 1) := by decide +kernel
theorem dX7_refusalOfBook_8 : decode cX7_refusalOfBook 8 = .ok (.ireturn, 1) := by decide +kernel
theorem dX7_refusalOfBook_9 : decode cX7_refusalOfBook 9 = .ok (.aload_n 0, 1) := by decide +kernel
theorem dX7_refusalOfBook_10 : decode cX7_refusalOfBook 10 = .ok (.getfield 60, 3) := by decide +kernel
theorem dX7_refusalOfBook_13 : decode cX7_refusalOfBook 13 = .ok (.iload_n 1, 1) := by decide +kernel
theorem dX7_refusalOfBook_14 : decode cX7_refusalOfBook 14 = .ok (.aaload, 1) := by decide +kernel
theorem dX7_refusalOfBook_15 : decode cX7_refusalOfBook 15 = .ok (.invokevirtual 81, 3) := by decide +kernel
theorem dX7_refusalOfBook_18 : decode cX7_refusalOfBook 18 = .ok (.ifCond .eq 6, 3) := by decide +kernel
theorem dX7_refusalOfBook_21 : decode cX7_refusalOfBook 21 = .ok (.bipush (-11), 2) := by decide +kernel
theorem dX7_refusalOfBook_23 : decode cX7_refusalOfBook 23 = .ok (.ireturn, 1) := by decide +kernel
theorem dX7_refusalOfBook_24 : decode cX7_refusalOfBook 24 = .ok (.aload_n 0, 1) := by decide +kernel
theorem dX7_refusalOfBook_25 : decode cX7_refusalOfBook 25 = .ok (.getfield 60, 3) := by decide +kernel
theorem dX7_refusalOfBook_28 : decode cX7_refusalOfBook 28 = .ok (.iload_n 1, 1) := by decide +kernel
theorem dX7_refusalOfBook_29 : decode cX7_refusalOfBook 29 = .ok (.aaload, 1) := by decide +kernel
theorem dX7_refusalOfBook_30 : decode cX7_refusalOfBook 30 = .ok (.iconst 1, 1) := by decide +kernel
theorem dX7_refusalOfBook_31 : decode cX7_refusalOfBook 31 = .ok (.invokevirtual 85, 3) := by decide +kernel
theorem dX7_refusalOfBook_34 : decode cX7_refusalOfBook 34 = .ok (.ifCond .eq 7, 3) := by decide +kernel
theorem dX7_refusalOfBook_37 : decode cX7_refusalOfBook 37 = .ok (.iconst 0, 1) := by decide +kernel
theorem dX7_refusalOfBook_38 : decode cX7_refusalOfBook 38 = .ok (.goto 5, 3) := by decide +kernel
theorem dX7_refusalOfBook_41 : decode cX7_refusalOfBook 41 = .ok (.bipush (-12), 2) := by decide +kernel
theorem dX7_refusalOfBook_43 : decode cX7_refusalOfBook 43 = .ok (.ireturn, 1) := by decide +kernel
set_option maxRecDepth 100000 in
theorem ggX7_refusalOfElement_X7_isShelf : GoodIn wsX7_refusalOfElement wsX7_isShelf := goodIn_r _ [5] rfl gd_wsX7_isShelf
set_option maxRecDepth 100000 in
theorem gX7_refusalOfElement_X7_isShelf : GoodIn wsX7_refusalOfElement (va_wsS RX7 77 yX7_isShelf wsX7_isShelf) := goodIn_app (goodIn_r _ [2, 3, 4] rfl (by decide +kernel)) ggX7_refusalOfElement_X7_isShelf
set_option maxRecDepth 100000 in
theorem ggX7_refusalOfElement_X4_holdsNothing : GoodIn wsX7_refusalOfElement wsX4_holdsNothing := goodIn_r _ [10, 11, 12, 33, 34, 35, 36] rfl gd_wsX4_holdsNothing
set_option maxRecDepth 100000 in
theorem gX7_refusalOfElement_X4_holdsNothing : GoodIn wsX7_refusalOfElement (wsV RX7 81 RX4 yX4_holdsNothing wsX4_holdsNothing) := goodIn_app (goodIn_r _ [6, 7, 8, 9] rfl (by decide +kernel)) ggX7_refusalOfElement_X4_holdsNothing
set_option maxRecDepth 100000 in
theorem ggX7_refusalOfElement_X4_holdsRow : GoodIn wsX7_refusalOfElement wsX4_holdsRow := goodIn_r _ [16, 11, 33, 34, 35, 36] rfl gd_wsX4_holdsRow
set_option maxRecDepth 100000 in
theorem gX7_refusalOfElement_X4_holdsRow : GoodIn wsX7_refusalOfElement (wsV RX7 333 RX4 yX4_holdsRow wsX4_holdsRow) := goodIn_app (goodIn_r _ [13, 14, 15, 9] rfl (by decide +kernel)) ggX7_refusalOfElement_X4_holdsRow
set_option maxRecDepth 100000 in
theorem ggX7_refusalOfElement_X4_hasPlaces : GoodIn wsX7_refusalOfElement wsX4_hasPlaces := goodIn_r _ [20, 21, 33, 34, 35, 36] rfl gd_wsX4_hasPlaces
set_option maxRecDepth 100000 in
theorem gX7_refusalOfElement_X4_hasPlaces : GoodIn wsX7_refusalOfElement (wsV RX7 88 RX4 yX4_hasPlaces wsX4_hasPlaces) := goodIn_app (goodIn_r _ [17, 18, 19, 9] rfl (by decide +kernel)) ggX7_refusalOfElement_X4_hasPlaces
theorem dX7_refusalOfElement_0 : decode cX7_refusalOfElement 0 = .ok (.iload_n 1, 1) := by decide +kernel
theorem dX7_refusalOfElement_1 : decode cX7_refusalOfElement 1 = .ok (.invokestatic 77, 3) := by decide +kernel
theorem dX7_refusalOfElement_4 : decode cX7_refusalOfElement 4 = .ok (.ifCond .ne 5, 3) := by decide +kernel
theorem dX7_refusalOfElement_7 : decode cX7_refusalOfElement 7 = .ok (.iconst (-1), 1) := by decide +kernel
theorem dX7_refusalOfElement_8 : decode cX7_refusalOfElement 8 = .ok (.ireturn, 1) := by decide +kernel
theorem dX7_refusalOfElement_9 : decode cX7_refusalOfElement 9 = .ok (.aload_n 0, 1) := by decide +kernel
theorem dX7_refusalOfElement_10 : decode cX7_refusalOfElement 10 = .ok (.getfield 60, 3) := by decide +kernel
theorem dX7_refusalOfElement_13 : decode cX7_refusalOfElement 13 = .ok (.iload_n 1, 1) := by decide +kernel
theorem dX7_refusalOfElement_14 : decode cX7_refusalOfElement 14 = .ok (.aaload, 1) := by decide +kernel
theorem dX7_refusalOfElement_15 : decode cX7_refusalOfElement 15 = .ok (.invokevirtual 81, 3) := by decide +kernel
theorem dX7_refusalOfElement_18 : decode cX7_refusalOfElement 18 = .ok (.ifCond .eq 6, 3) := by decide +kernel
theorem dX7_refusalOfElement_21 : decode cX7_refusalOfElement 21 = .ok (.bipush (-11), 2) := by decide +kernel
theorem dX7_refusalOfElement_23 : decode cX7_refusalOfElement 23 = .ok (.ireturn, 1) := by decide +kernel
theorem dX7_refusalOfElement_24 : decode cX7_refusalOfElement 24 = .ok (.aload_n 0, 1) := by decide +kernel
theorem dX7_refusalOfElement_25 : decode cX7_refusalOfElement 25 = .ok (.getfield 60, 3) := by decide +kernel
theorem dX7_refusalOfElement_28 : decode cX7_refusalOfElement 28 = .ok (.iload_n 1, 1) := by decide +kernel
theorem dX7_refusalOfElement_29 : decode cX7_refusalOfElement 29 = .ok (.aaload, 1) := by decide +kernel
theorem dX7_refusalOfElement_30 : decode cX7_refusalOfElement 30 = .ok (.invokevirtual 333, 3) := by decide +kernel
theorem dX7_refusalOfElement_33 : decode cX7_refusalOfElement 33 = .ok (.ifCond .ne 6, 3) := by decide +kernel
theorem dX7_refusalOfElement_36 : decode cX7_refusalOfElement 36 = .ok (.bipush (-12), 2) := by decide +kernel
theorem dX7_refusalOfElement_38 : decode cX7_refusalOfElement 38 = .ok (.ireturn, 1) := by decide +kernel
theorem dX7_refusalOfElement_39 : decode cX7_refusalOfElement 39 = .ok (.aload_n 0, 1) := by decide +kernel
theorem dX7_refusalOfElement_40 : decode cX7_refusalOfElement 40 = .ok (.getfield 60, 3) := by decide +kernel
theorem dX7_refusalOfElement_43 : decode cX7_refusalOfElement 43 = .ok (.iload_n 1, 1) := by decide +kernel
theorem dX7_refusalOfElement_44 : decode cX7_refusalOfElement 44 = .ok (.aaload, 1) := by decide +kernel
theorem dX7_refusalOfElement_45 : decode cX7_refusalOfElement 45 = .ok (.iload_n 2, 1) := by decide +kernel
theorem dX7_refusalOfElement_46 : decode cX7_refusalOfElement 46 = .ok (.iconst 1, 1) := by decide +kernel
theorem dX7_refusalOfElement_47 : decode cX7_refusalOfElement 47 = .ok (.invokevirtual 88, 3) := by decide +kernel
theorem dX7_refusalOfElement_50 : decode cX7_refusalOfElement 50 = .ok (.ifCond .eq 7, 3) := by decide +kernel
theorem dX7_refusalOfElement_53 : decode cX7_refusalOfElement 53 = .ok (.iconst 0, 1) := by decide +kernel
theorem dX7_refusalOfElement_54 : decode cX7_refusalOfElement 54 = .ok (.goto 5, 3) := by decide +kernel
theorem dX7_refusalOfElement_57 : decode cX7_refusalOfElement 57 = .ok (.bipush (-13), 2) := by decide +kernel
theorem dX7_refusalOfElement_59 : decode cX7_refusalOfElement 59 = .ok (.ireturn, 1) := by decide +kernel
set_option maxRecDepth 100000 in
theorem ggX7_firstWrong_X7_isStep : GoodIn wsX7_firstWrong wsX7_isStep := goodIn_r _ [7, 8] rfl gd_wsX7_isStep
set_option maxRecDepth 100000 in
theorem gX7_firstWrong_X7_isStep : GoodIn wsX7_firstWrong (va_wsS RX7 141 yX7_isStep wsX7_isStep) := goodIn_app (goodIn_r _ [4, 5, 6] rfl (by decide +kernel)) ggX7_firstWrong_X7_isStep
set_option maxRecDepth 100000 in
theorem ggX7_firstWrong_X7_isPair : GoodIn wsX7_firstWrong wsX7_isPair := goodIn_r _ [12, 3, 13, 78, 79, 80, 81, 82, 83, 84, 85, 86, 87, 88, 89, 90, 91, 92, 93, 94, 95, 96, 97, 98, 99] rfl gd_wsX7_isPair
set_option maxRecDepth 100000 in
theorem gX7_firstWrong_X7_isPair : GoodIn wsX7_firstWrong (wsV RX7 147 RX7 yX7_isPair wsX7_isPair) := goodIn_app (goodIn_r _ [9, 10, 11, 6] rfl (by decide +kernel)) ggX7_firstWrong_X7_isPair
set_option maxRecDepth 100000 in
theorem ggX7_firstWrong_X5_meet : GoodIn wsX7_firstWrong wsX5_meet := goodIn_r _ [18, 19, 20, 21, 22, 23, 24, 25, 26, 27, 28, 17, 29, 30, 31, 32, 6, 33, 34, 35, 36, 37, 38, 39, 40, 41, 42, 43, 44, 45, 46, 47, 48, 49, 50, 51, 52, 53, 54, 55, 56, 57, 58, 59, 60, 61, 62, 63, 64, 65, 66, 67, 68, 69, 70, 71, 72, 73, 89, 90, 91, 92, 93, 94, 95, 96, 97, 98, 99, 100, 101, 102, 103, 104, 105, 106, 107, 108, 109, 110, 111] rfl gd_wsX5_meet
set_option maxRecDepth 100000 in
theorem gX7_firstWrong_X5_meet : GoodIn wsX7_firstWrong (wsV RX7 150 RX5 yX5_meet wsX5_meet) := goodIn_app (goodIn_r _ [14, 15, 16, 17] rfl (by decide +kernel)) ggX7_firstWrong_X5_meet
theorem dX7_firstWrong_0 : decode cX7_firstWrong 0 = .ok (.iconst 0, 1) := by decide +kernel
theorem dX7_firstWrong_1 : decode cX7_firstWrong 1 = .ok (.istore_n 2, 1) := by decide +kernel
theorem dX7_firstWrong_2 : decode cX7_firstWrong 2 = .ok (.iload_n 2, 1) := by decide +kernel
theorem dX7_firstWrong_3 : decode cX7_firstWrong 3 = .ok (.aload_n 1, 1) := by decide +kernel
theorem dX7_firstWrong_4 : decode cX7_firstWrong 4 = .ok (.getfield 373, 3) := by decide +kernel
theorem dX7_firstWrong_7 : decode cX7_firstWrong 7 = .ok (.if_icmp .ge 116, 3) := by decide +kernel
theorem dX7_firstWrong_10 : decode cX7_firstWrong 10 = .ok (.iload_n 2, 1) := by decide +kernel
theorem dX7_firstWrong_11 : decode cX7_firstWrong 11 = .ok (.aload_n 1, 1) := by decide +kernel
theorem dX7_firstWrong_12 : decode cX7_firstWrong 12 = .ok (.getfield 373, 3) := by decide +kernel
theorem dX7_firstWrong_15 : decode cX7_firstWrong 15 = .ok (.iconst 3, 1) := by decide +kernel
theorem dX7_firstWrong_16 : decode cX7_firstWrong 16 = .ok (.isub, 1) := by decide +kernel
theorem dX7_firstWrong_17 : decode cX7_firstWrong 17 = .ok (.if_icmp .le 7, 3) := by decide +kernel
theorem dX7_firstWrong_20 : decode cX7_firstWrong 20 = .ok (.iload_n 2, 1) := by decide +kernel
theorem dX7_firstWrong_21 : decode cX7_firstWrong 21 = .ok (.iconst 3, 1) := by decide +kernel
theorem dX7_firstWrong_22 : decode cX7_firstWrong 22 = .ok (.idiv, 1) := by decide +kernel
theorem dX7_firstWrong_23 : decode cX7_firstWrong 23 = .ok (.ireturn, 1) := by decide +kernel
theorem dX7_firstWrong_24 : decode cX7_firstWrong 24 = .ok (.aload_n 1, 1) := by decide +kernel
theorem dX7_firstWrong_25 : decode cX7_firstWrong 25 = .ok (.getfield 92, 3) := by decide +kernel
theorem dX7_firstWrong_28 : decode cX7_firstWrong 28 = .ok (.iload_n 2, 1) := by decide +kernel
theorem dX7_firstWrong_29 : decode cX7_firstWrong 29 = .ok (.laload, 1) := by decide +kernel
theorem dX7_firstWrong_30 : decode cX7_firstWrong 30 = .ok (.l2i, 1) := by decide +kernel
theorem dX7_firstWrong_31 : decode cX7_firstWrong 31 = .ok (.istore_n 3, 1) := by decide +kernel
theorem dX7_firstWrong_32 : decode cX7_firstWrong 32 = .ok (.aload_n 1, 1) := by decide +kernel
theorem dX7_firstWrong_33 : decode cX7_firstWrong 33 = .ok (.getfield 92, 3) := by decide +kernel
theorem dX7_firstWrong_36 : decode cX7_firstWrong 36 = .ok (.iload_n 2, 1) := by decide +kernel
theorem dX7_firstWrong_37 : decode cX7_firstWrong 37 = .ok (.iconst 1, 1) := by decide +kernel
theorem dX7_firstWrong_38 : decode cX7_firstWrong 38 = .ok (.iadd, 1) := by decide +kernel
theorem dX7_firstWrong_39 : decode cX7_firstWrong 39 = .ok (.laload, 1) := by decide +kernel
theorem dX7_firstWrong_40 : decode cX7_firstWrong 40 = .ok (.l2i, 1) := by decide +kernel
theorem dX7_firstWrong_41 : decode cX7_firstWrong 41 = .ok (.istore 4, 2) := by decide +kernel
theorem dX7_firstWrong_43 : decode cX7_firstWrong 43 = .ok (.aload_n 1, 1) := by decide +kernel
theorem dX7_firstWrong_44 : decode cX7_firstWrong 44 = .ok (.getfield 92, 3) := by decide +kernel
theorem dX7_firstWrong_47 : decode cX7_firstWrong 47 = .ok (.iload_n 2, 1) := by decide +kernel
theorem dX7_firstWrong_48 : decode cX7_firstWrong 48 = .ok (.iconst 2, 1) := by decide +kernel
theorem dX7_firstWrong_49 : decode cX7_firstWrong 49 = .ok (.iadd, 1) := by decide +kernel
theorem dX7_firstWrong_50 : decode cX7_firstWrong 50 = .ok (.laload, 1) := by decide +kernel
theorem dX7_firstWrong_51 : decode cX7_firstWrong 51 = .ok (.l2i, 1) := by decide +kernel
theorem dX7_firstWrong_52 : decode cX7_firstWrong 52 = .ok (.istore 5, 2) := by decide +kernel
theorem dX7_firstWrong_54 : decode cX7_firstWrong 54 = .ok (.iload_n 3, 1) := by decide +kernel
theorem dX7_firstWrong_55 : decode cX7_firstWrong 55 = .ok (.invokestatic 141, 3) := by decide +kernel
theorem dX7_firstWrong_58 : decode cX7_firstWrong 58 = .ok (.ifCond .eq 55, 3) := by decide +kernel
theorem dX7_firstWrong_61 : decode cX7_firstWrong 61 = .ok (.aload_n 0, 1) := by decide +kernel
theorem dX7_firstWrong_62 : decode cX7_firstWrong 62 = .ok (.iload 4, 2) := by decide +kernel
theorem dX7_firstWrong_64 : decode cX7_firstWrong 64 = .ok (.invokevirtual 147, 3) := by decide +kernel
theorem dX7_firstWrong_67 : decode cX7_firstWrong 67 = .ok (.ifCond .eq 46, 3) := by decide +kernel
theorem dX7_firstWrong_70 : decode cX7_firstWrong 70 = .ok (.iload 5, 2) := by decide +kernel
theorem dX7_firstWrong_72 : decode cX7_firstWrong 72 = .ok (.ifCond .lt 41, 3) := by decide +kernel
theorem dX7_firstWrong_75 : decode cX7_firstWrong 75 = .ok (.iload 5, 2) := by decide +kernel
theorem dX7_firstWrong_77 : decode cX7_firstWrong 77 = .ok (.iconst 1, 1) := by decide +kernel
theorem dX7_firstWrong_78 : decode cX7_firstWrong 78 = .ok (.if_icmp .gt 35, 3) := by decide +kernel
theorem dX7_firstWrong_81 : decode cX7_firstWrong 81 = .ok (.aload_n 0, 1) := by decide +kernel
theorem dX7_firstWrong_82 : decode cX7_firstWrong 82 = .ok (.getfield 21, 3) := by decide +kernel
theorem dX7_firstWrong_85 : decode cX7_firstWrong 85 = .ok (.iload 4, 2) := by decide +kernel
theorem dX7_firstWrong_87 : decode cX7_firstWrong 87 = .ok (.bipush 10, 2) := by decide +kernel
theorem dX7_firstWrong_89 : decode cX7_firstWrong 89 = .ok (.idiv, 1) := by decide +kernel
theorem dX7_firstWrong_90 : decode cX7_firstWrong 90 = .ok (.iload 4, 2) := by decide +kernel
theorem dX7_firstWrong_92 : decode cX7_firstWrong 92 = .ok (.bipush 10, 2) := by decide +kernel
theorem dX7_firstWrong_94 : decode cX7_firstWrong 94 = .ok (.irem, 1) := by decide +kernel
theorem dX7_firstWrong_95 : decode cX7_firstWrong 95 = .ok (.iload_n 3, 1) := by decide +kernel
theorem dX7_firstWrong_96 : decode cX7_firstWrong 96 = .ok (.invokevirtual 150, 3) := by decide +kernel
theorem dX7_firstWrong_99 : decode cX7_firstWrong 99 = .ok (.iload 5, 2) := by decide +kernel
theorem dX7_firstWrong_101 : decode cX7_firstWrong 101 = .ok (.iconst 1, 1) := by decide +kernel
theorem dX7_firstWrong_102 : decode cX7_firstWrong 102 = .ok (.if_icmp .ne 7, 3) := by decide +kernel
theorem dX7_firstWrong_105 : decode cX7_firstWrong 105 = .ok (.iconst 1, 1) := by decide +kernel
theorem dX7_firstWrong_106 : decode cX7_firstWrong 106 = .ok (.goto 4, 3) := by decide +kernel
theorem dX7_firstWrong_109 : decode cX7_firstWrong 109 = .ok (.iconst 0, 1) := by decide +kernel
theorem dX7_firstWrong_110 : decode cX7_firstWrong 110 = .ok (.if_icmp .eq 7, 3) := by decide +kernel
theorem dX7_firstWrong_113 : decode cX7_firstWrong 113 = .ok (.iload_n 2, 1) := by decide +kernel
theorem dX7_firstWrong_114 : decode cX7_firstWrong 114 = .ok (.iconst 3, 1) := by decide +kernel
theorem dX7_firstWrong_115 : decode cX7_firstWrong 115 = .ok (.idiv, 1) := by decide +kernel
theorem dX7_firstWrong_116 : decode cX7_firstWrong 116 = .ok (.ireturn, 1) := by decide +kernel
theorem dX7_firstWrong_117 : decode cX7_firstWrong 117 = .ok (.iinc 2 3, 3) := by decide +kernel
theorem dX7_firstWrong_120 : decode cX7_firstWrong 120 = .ok (.goto (-118), 3) := by decide +kernel
theorem dX7_firstWrong_123 : decode cX7_firstWrong 123 = .ok (.bipush (-2), 2) := by decide +kernel
theorem dX7_firstWrong_125 : decode cX7_firstWrong 125 = .ok (.ireturn, 1) := by decide +kernel
set_option maxRecDepth 100000 in
theorem ggX7_startsThatFit_X7_firstWrong : GoodIn wsX7_startsThatFit wsX7_firstWrong := goodIn_r _ [8, 9, 10, 1, 11, 12, 7, 13, 14, 15, 16, 17, 18, 19, 20, 21, 22, 23, 24, 25, 26, 27, 28, 29, 30, 31, 32, 33, 34, 35, 36, 37, 38, 39, 40, 41, 42, 43, 44, 45, 46, 47, 48, 49, 50, 51, 52, 53, 54, 55, 56, 57, 58, 59, 60, 61, 62, 63, 64, 65, 66, 67, 68, 69, 70, 71, 72, 73, 74, 75, 76, 77, 78, 79, 102, 103, 104, 105, 80, 81, 82, 83, 84, 85, 86, 87, 88, 89, 90, 91, 92, 93, 94, 95, 96, 97, 98, 99, 100, 101, 106, 107, 108, 109, 110, 111, 112, 113, 114, 115, 116, 117] rfl gd_wsX7_firstWrong
set_option maxRecDepth 100000 in
theorem gX7_startsThatFit_X7_firstWrong : GoodIn wsX7_startsThatFit (wsV RX7 234 RX7 yX7_firstWrong wsX7_firstWrong) := goodIn_app (goodIn_r _ [4, 5, 6, 7] rfl (by decide +kernel)) ggX7_startsThatFit_X7_firstWrong
theorem dX7_startsThatFit_0 : decode cX7_startsThatFit 0 = .ok (.aload_n 0, 1) := by decide +kernel
theorem dX7_startsThatFit_1 : decode cX7_startsThatFit 1 = .ok (.getfield 21, 3) := by decide +kernel
theorem dX7_startsThatFit_4 : decode cX7_startsThatFit 4 = .ok (.getfield 358, 3) := by decide +kernel
theorem dX7_startsThatFit_7 : decode cX7_startsThatFit 7 = .ok (.iload_n 2, 1) := by decide +kernel
theorem dX7_startsThatFit_8 : decode cX7_startsThatFit 8 = .ok (.iaload, 1) := by decide +kernel
theorem dX7_startsThatFit_9 : decode cX7_startsThatFit 9 = .ok (.istore_n 3, 1) := by decide +kernel
theorem dX7_startsThatFit_10 : decode cX7_startsThatFit 10 = .ok (.iconst 0, 1) := by decide +kernel
theorem dX7_startsThatFit_11 : decode cX7_startsThatFit 11 = .ok (.istore 4, 2) := by decide +kernel
theorem dX7_startsThatFit_13 : decode cX7_startsThatFit 13 = .ok (.iconst 0, 1) := by decide +kernel
theorem dX7_startsThatFit_14 : decode cX7_startsThatFit 14 = .ok (.istore 5, 2) := by decide +kernel
theorem dX7_startsThatFit_16 : decode cX7_startsThatFit 16 = .ok (.iload 5, 2) := by decide +kernel
theorem dX7_startsThatFit_18 : decode cX7_startsThatFit 18 = .ok (.aload_n 0, 1) := by decide +kernel
theorem dX7_startsThatFit_19 : decode cX7_startsThatFit 19 = .ok (.getfield 21, 3) := by decide +kernel
theorem dX7_startsThatFit_22 : decode cX7_startsThatFit 22 = .ok (.getfield 355, 3) := by decide +kernel
theorem dX7_startsThatFit_25 : decode cX7_startsThatFit 25 = .ok (.iload_n 2, 1) := by decide +kernel
theorem dX7_startsThatFit_26 : decode cX7_startsThatFit 26 = .ok (.iaload, 1) := by decide +kernel
theorem dX7_startsThatFit_27 : decode cX7_startsThatFit 27 = .ok (.if_icmp .ge 39, 3) := by decide +kernel
theorem dX7_startsThatFit_30 : decode cX7_startsThatFit 30 = .ok (.aload_n 0, 1) := by decide +kernel
theorem dX7_startsThatFit_31 : decode cX7_startsThatFit 31 = .ok (.getfield 21, 3) := by decide +kernel
theorem dX7_startsThatFit_34 : decode cX7_startsThatFit 34 = .ok (.getfield 358, 3) := by decide +kernel
theorem dX7_startsThatFit_37 : decode cX7_startsThatFit 37 = .ok (.iload_n 2, 1) := by decide +kernel
theorem dX7_startsThatFit_38 : decode cX7_startsThatFit 38 = .ok (.iload 5, 2) := by decide +kernel
theorem dX7_startsThatFit_40 : decode cX7_startsThatFit 40 = .ok (.iastore, 1) := by decide +kernel
theorem dX7_startsThatFit_41 : decode cX7_startsThatFit 41 = .ok (.aload_n 0, 1) := by decide +kernel
theorem dX7_startsThatFit_42 : decode cX7_startsThatFit 42 = .ok (.aload_n 1, 1) := by decide +kernel
theorem dX7_startsThatFit_43 : decode cX7_startsThatFit 43 = .ok (.invokevirtual 234, 3) := by decide +kernel
theorem dX7_startsThatFit_46 : decode cX7_startsThatFit 46 = .ok (.bipush (-2), 2) := by decide +kernel
theorem dX7_startsThatFit_48 : decode cX7_startsThatFit 48 = .ok (.if_icmp .ne 12, 3) := by decide +kernel
theorem dX7_startsThatFit_51 : decode cX7_startsThatFit 51 = .ok (.iload 4, 2) := by decide +kernel
theorem dX7_startsThatFit_53 : decode cX7_startsThatFit 53 = .ok (.iconst 1, 1) := by decide +kernel
theorem dX7_startsThatFit_54 : decode cX7_startsThatFit 54 = .ok (.iload 5, 2) := by decide +kernel
theorem dX7_startsThatFit_56 : decode cX7_startsThatFit 56 = .ok (.ishl, 1) := by decide +kernel
theorem dX7_startsThatFit_57 : decode cX7_startsThatFit 57 = .ok (.ior, 1) := by decide +kernel
theorem dX7_startsThatFit_58 : decode cX7_startsThatFit 58 = .ok (.istore 4, 2) := by decide +kernel
theorem dX7_startsThatFit_60 : decode cX7_startsThatFit 60 = .ok (.iinc 5 1, 3) := by decide +kernel
theorem dX7_startsThatFit_63 : decode cX7_startsThatFit 63 = .ok (.goto (-47), 3) := by decide +kernel
theorem dX7_startsThatFit_66 : decode cX7_startsThatFit 66 = .ok (.aload_n 0, 1) := by decide +kernel
theorem dX7_startsThatFit_67 : decode cX7_startsThatFit 67 = .ok (.getfield 21, 3) := by decide +kernel
theorem dX7_startsThatFit_70 : decode cX7_startsThatFit 70 = .ok (.getfield 358, 3) := by decide +kernel
theorem dX7_startsThatFit_73 : decode cX7_startsThatFit 73 = .ok (.iload_n 2, 1) := by decide +kernel
theorem dX7_startsThatFit_74 : decode cX7_startsThatFit 74 = .ok (.iload_n 3, 1) := by decide +kernel
theorem dX7_startsThatFit_75 : decode cX7_startsThatFit 75 = .ok (.iastore, 1) := by decide +kernel
theorem dX7_startsThatFit_76 : decode cX7_startsThatFit 76 = .ok (.iload 4, 2) := by decide +kernel
theorem dX7_startsThatFit_78 : decode cX7_startsThatFit 78 = .ok (.ireturn, 1) := by decide +kernel
set_option maxRecDepth 100000 in
theorem ggX7_lowestBit_J6_bitCount_0f7a4 : GoodIn wsX7_lowestBit wsJ6_bitCount_0f7a4 := goodIn_r _ [4, 5, 6, 7] rfl gd_wsJ6_bitCount_0f7a4
set_option maxRecDepth 100000 in
theorem gX7_lowestBit_J6_bitCount_0f7a4 : GoodIn wsX7_lowestBit (va_wsS RX7 242 yJ6_bitCount_0f7a4 wsJ6_bitCount_0f7a4) := goodIn_app (goodIn_r _ [1, 2, 3] rfl (by decide +kernel)) ggX7_lowestBit_J6_bitCount_0f7a4
theorem dX7_lowestBit_0 : decode cX7_lowestBit 0 = .ok (.iload_n 0, 1) := by decide +kernel
theorem dX7_lowestBit_1 : decode cX7_lowestBit 1 = .ok (.iload_n 0, 1) := by decide +kernel
theorem dX7_lowestBit_2 : decode cX7_lowestBit 2 = .ok (.ineg, 1) := by decide +kernel
theorem dX7_lowestBit_3 : decode cX7_lowestBit 3 = .ok (.iand, 1) := by decide +kernel
theorem dX7_lowestBit_4 : decode cX7_lowestBit 4 = .ok (.iconst 1, 1) := by decide +kernel
theorem dX7_lowestBit_5 : decode cX7_lowestBit 5 = .ok (.isub, 1) := by decide +kernel
theorem dX7_lowestBit_6 : decode cX7_lowestBit 6 = .ok (.invokestatic 242, 3) := by decide +kernel
theorem dX7_lowestBit_9 : decode cX7_lowestBit 9 = .ok (.ireturn, 1) := by decide +kernel
set_option maxRecDepth 100000 in
theorem ggX7_draw_X7_left : GoodIn wsX7_draw wsX7_left := goodIn_r _ [6] rfl gd_wsX7_left
set_option maxRecDepth 100000 in
theorem gX7_draw_X7_left : GoodIn wsX7_draw (va_wsS RX7 270 yX7_left wsX7_left) := goodIn_app (goodIn_r _ [3, 4, 5] rfl (by decide +kernel)) ggX7_draw_X7_left
theorem dX7_draw_0 : decode cX7_draw 0 = .ok (.aload_n 0, 1) := by decide +kernel
theorem dX7_draw_1 : decode cX7_draw 1 = .ok (.aload_n 0, 1) := by decide +kernel
theorem dX7_draw_2 : decode cX7_draw 2 = .ok (.getfield 255, 3) := by decide +kernel
theorem dX7_draw_5 : decode cX7_draw 5 = .ok (.ldc_w 374, 3) := by decide +kernel
theorem dX7_draw_8 : decode cX7_draw 8 = .ok (.imul, 1) := by decide +kernel
theorem dX7_draw_9 : decode cX7_draw 9 = .ok (.sipush 12345, 3) := by decide +kernel
theorem dX7_draw_12 : decode cX7_draw 12 = .ok (.iadd, 1) := by decide +kernel
theorem dX7_draw_13 : decode cX7_draw 13 = .ok (.putfield 255, 3) := by decide +kernel
theorem dX7_draw_16 : decode cX7_draw 16 = .ok (.aload_n 0, 1) := by decide +kernel
theorem dX7_draw_17 : decode cX7_draw 17 = .ok (.getfield 255, 3) := by decide +kernel
theorem dX7_draw_20 : decode cX7_draw 20 = .ok (.bipush 8, 2) := by decide +kernel
theorem dX7_draw_22 : decode cX7_draw 22 = .ok (.iushr, 1) := by decide +kernel
theorem dX7_draw_23 : decode cX7_draw 23 = .ok (.iload_n 1, 1) := by decide +kernel
theorem dX7_draw_24 : decode cX7_draw 24 = .ok (.invokestatic 270, 3) := by decide +kernel
theorem dX7_draw_27 : decode cX7_draw 27 = .ok (.ireturn, 1) := by decide +kernel
set_option maxRecDepth 100000 in
theorem ggX7_carry_X6_fewestSteps : GoodIn wsX7_carry wsX6_fewestSteps := goodIn_r _ [11, 12, 13, 14, 15, 16, 17, 18, 19, 20, 21, 22, 23, 24, 25, 26, 27, 28, 29, 30, 31, 32, 33, 34, 35, 36, 37, 38, 39, 40, 41, 42, 43, 44, 45, 46, 47, 48, 49, 50, 51, 52, 53, 54, 55, 56, 57, 58, 59, 60, 61, 62, 63, 64, 65, 66, 67, 68, 69, 70, 71, 72, 73, 74, 75, 76, 77, 78, 79, 80, 81, 82, 83, 84, 85, 86, 87, 88, 89, 90, 91, 92, 93, 94, 95, 96, 97, 98, 99, 100, 101, 102, 103, 104, 105, 106, 107, 108, 109, 110, 111, 170, 171, 172, 173, 174, 175, 176, 177, 178, 179, 180, 181, 182, 183, 184, 185, 186, 187, 188, 189, 190, 191, 192, 193, 194, 195, 196, 197, 198, 199, 200, 201, 202, 203, 204, 205, 206] rfl gd_wsX6_fewestSteps
set_option maxRecDepth 100000 in
theorem gX7_carry_X6_fewestSteps : GoodIn wsX7_carry (wsV RX7 190 RX6 yX6_fewestSteps wsX6_fewestSteps) := goodIn_app (goodIn_r _ [7, 8, 9, 10] rfl (by decide +kernel)) ggX7_carry_X6_fewestSteps
set_option maxRecDepth 100000 in
theorem ggX7_carry_X6_holder : GoodIn wsX7_carry wsX6_holder := goodIn_r _ [115, 116, 117, 118, 10, 119, 12, 120, 121, 122, 123, 124, 125, 126, 13, 127, 128, 129, 60, 57, 61, 130, 24, 25, 17, 26, 27, 131, 132, 133, 134, 107, 95, 96, 97, 21, 22, 23, 170, 171, 172, 173, 174, 175, 176, 177, 178, 179, 180, 181, 182, 183, 184, 185, 186, 187, 188, 189, 190, 191, 192, 193, 194] rfl gd_wsX6_holder
set_option maxRecDepth 100000 in
theorem gX7_carry_X6_holder : GoodIn wsX7_carry (wsV RX7 193 RX6 yX6_holder wsX6_holder) := goodIn_app (goodIn_r _ [112, 113, 114, 10] rfl (by decide +kernel)) ggX7_carry_X6_holder
set_option maxRecDepth 100000 in
theorem ggX7_carry_X7_draw : GoodIn wsX7_carry wsX7_draw := goodIn_r _ [138, 139, 140, 141, 44, 34, 45, 152, 153, 154, 155, 156, 157, 158, 159, 160, 161, 162] rfl gd_wsX7_draw
set_option maxRecDepth 100000 in
theorem gX7_carry_X7_draw : GoodIn wsX7_carry (wsV RX7 267 RX7 yX7_draw wsX7_draw) := goodIn_app (goodIn_r _ [135, 136, 137, 34] rfl (by decide +kernel)) ggX7_carry_X7_draw
set_option maxRecDepth 20000 in
theorem gd_wsX1_handOn : wsX1_handOn.all goodWord = true := by decide +kernel
set_option maxRecDepth 100000 in
theorem ggX7_carry_X1_handOn : GoodIn wsX7_carry wsX1_handOn := goodIn_r _ [146, 147, 148, 149, 150, 151, 163, 164, 165, 166, 167, 168, 169] rfl gd_wsX1_handOn
set_option maxRecDepth 100000 in
theorem gX7_carry_X1_handOn : GoodIn wsX7_carry (wsV RX7 381 RX1 yX1_handOn wsX1_handOn) := goodIn_app (goodIn_r _ [142, 143, 144, 145] rfl (by decide +kernel)) ggX7_carry_X1_handOn
theorem dX7_carry_0 : decode cX7_carry 0 = .ok (.aload_n 0, 1) := by decide +kernel
theorem dX7_carry_1 : decode cX7_carry 1 = .ok (.getfield 44, 3) := by decide +kernel
theorem dX7_carry_4 : decode cX7_carry 4 = .ok (.getfield 375, 3) := by decide +kernel
theorem dX7_carry_7 : decode cX7_carry 7 = .ok (.iload_n 1, 1) := by decide +kernel
theorem dX7_carry_8 : decode cX7_carry 8 = .ok (.iaload, 1) := by decide +kernel
theorem dX7_carry_9 : decode cX7_carry 9 = .ok (.istore_n 2, 1) := by decide +kernel
theorem dX7_carry_10 : decode cX7_carry 10 = .ok (.aload_n 0, 1) := by decide +kernel
theorem dX7_carry_11 : decode cX7_carry 11 = .ok (.getfield 44, 3) := by decide +kernel
theorem dX7_carry_14 : decode cX7_carry 14 = .ok (.getfield 378, 3) := by decide +kernel
theorem dX7_carry_17 : decode cX7_carry 17 = .ok (.iload_n 1, 1) := by decide +kernel
theorem dX7_carry_18 : decode cX7_carry 18 = .ok (.iaload, 1) := by decide +kernel
theorem dX7_carry_19 : decode cX7_carry 19 = .ok (.istore_n 3, 1) := by decide +kernel
theorem dX7_carry_20 : decode cX7_carry 20 = .ok (.iload_n 2, 1) := by decide +kernel
theorem dX7_carry_21 : decode cX7_carry 21 = .ok (.bipush (-2), 2) := by decide +kernel
theorem dX7_carry_23 : decode cX7_carry 23 = .ok (.if_icmp .eq 8, 3) := by decide +kernel
theorem dX7_carry_26 : decode cX7_carry 26 = .ok (.iload_n 2, 1) := by decide +kernel
theorem dX7_carry_27 : decode cX7_carry 27 = .ok (.iload_n 3, 1) := by decide +kernel
theorem dX7_carry_28 : decode cX7_carry 28 = .ok (.if_icmp .ne 4, 3) := by decide +kernel
theorem dX7_carry_31 : decode cX7_carry 31 = .ok (.return_, 1) := by decide +kernel
theorem dX7_carry_32 : decode cX7_carry 32 = .ok (.aload_n 0, 1) := by decide +kernel
theorem dX7_carry_33 : decode cX7_carry 33 = .ok (.getfield 30, 3) := by decide +kernel
theorem dX7_carry_36 : decode cX7_carry 36 = .ok (.iload_n 2, 1) := by decide +kernel
theorem dX7_carry_37 : decode cX7_carry 37 = .ok (.iload_n 3, 1) := by decide +kernel
theorem dX7_carry_38 : decode cX7_carry 38 = .ok (.aload_n 0, 1) := by decide +kernel
theorem dX7_carry_39 : decode cX7_carry 39 = .ok (.getfield 44, 3) := by decide +kernel
theorem dX7_carry_42 : decode cX7_carry 42 = .ok (.getfield 264, 3) := by decide +kernel
theorem dX7_carry_45 : decode cX7_carry 45 = .ok (.invokevirtual 190, 3) := by decide +kernel
theorem dX7_carry_48 : decode cX7_carry 48 = .ok (.istore 4, 2) := by decide +kernel
theorem dX7_carry_50 : decode cX7_carry 50 = .ok (.iload 4, 2) := by decide +kernel
theorem dX7_carry_52 : decode cX7_carry 52 = .ok (.bipush (-2), 2) := by decide +kernel
theorem dX7_carry_54 : decode cX7_carry 54 = .ok (.if_icmp .ne 4, 3) := by decide +kernel
theorem dX7_carry_57 : decode cX7_carry 57 = .ok (.return_, 1) := by decide +kernel
theorem dX7_carry_58 : decode cX7_carry 58 = .ok (.aload_n 0, 1) := by decide +kernel
theorem dX7_carry_59 : decode cX7_carry 59 = .ok (.getfield 30, 3) := by decide +kernel
theorem dX7_carry_62 : decode cX7_carry 62 = .ok (.iload_n 2, 1) := by decide +kernel
theorem dX7_carry_63 : decode cX7_carry 63 = .ok (.iload_n 3, 1) := by decide +kernel
theorem dX7_carry_64 : decode cX7_carry 64 = .ok (.iload 4, 2) := by decide +kernel
theorem dX7_carry_66 : decode cX7_carry 66 = .ok (.iconst 1, 1) := by decide +kernel
theorem dX7_carry_67 : decode cX7_carry 67 = .ok (.invokevirtual 193, 3) := by decide +kernel
theorem dX7_carry_70 : decode cX7_carry 70 = .ok (.istore 5, 2) := by decide +kernel
theorem dX7_carry_72 : decode cX7_carry 72 = .ok (.iload 5, 2) := by decide +kernel
theorem dX7_carry_74 : decode cX7_carry 74 = .ok (.iload_n 2, 1) := by decide +kernel
theorem dX7_carry_75 : decode cX7_carry 75 = .ok (.if_icmp .ne 4, 3) := by decide +kernel
theorem dX7_carry_78 : decode cX7_carry 78 = .ok (.return_, 1) := by decide +kernel
theorem dX7_carry_79 : decode cX7_carry 79 = .ok (.aload_n 0, 1) := by decide +kernel
theorem dX7_carry_80 : decode cX7_carry 80 = .ok (.getfield 44, 3) := by decide +kernel
theorem dX7_carry_83 : decode cX7_carry 83 = .ok (.iload_n 1, 1) := by decide +kernel
theorem dX7_carry_84 : decode cX7_carry 84 = .ok (.iload 5, 2) := by decide +kernel
theorem dX7_carry_86 : decode cX7_carry 86 = .ok (.aload_n 0, 1) := by decide +kernel
theorem dX7_carry_87 : decode cX7_carry 87 = .ok (.bipush 12, 2) := by decide +kernel
theorem dX7_carry_89 : decode cX7_carry 89 = .ok (.invokevirtual 267, 3) := by decide +kernel
theorem dX7_carry_92 : decode cX7_carry 92 = .ok (.aload_n 0, 1) := by decide +kernel
theorem dX7_carry_93 : decode cX7_carry 93 = .ok (.getfield 226, 3) := by decide +kernel
theorem dX7_carry_96 : decode cX7_carry 96 = .ok (.if_icmp .ge 7, 3) := by decide +kernel
theorem dX7_carry_99 : decode cX7_carry 99 = .ok (.iconst 1, 1) := by decide +kernel
theorem dX7_carry_100 : decode cX7_carry 100 = .ok (.goto 4, 3) := by decide +kernel
theorem dX7_carry_103 : decode cX7_carry 103 = .ok (.iconst 0, 1) := by decide +kernel
theorem dX7_carry_104 : decode cX7_carry 104 = .ok (.invokevirtual 381, 3) := by decide +kernel
theorem dX7_carry_107 : decode cX7_carry 107 = .ok (.return_, 1) := by decide +kernel
theorem dX7_left_0 : decode cX7_left 0 = .ok (.iload_n 1, 1) := by decide +kernel
theorem dX7_left_1 : decode cX7_left 1 = .ok (.iconst 1, 1) := by decide +kernel
theorem dX7_left_2 : decode cX7_left 2 = .ok (.if_icmp .ge 7, 3) := by decide +kernel
theorem dX7_left_5 : decode cX7_left 5 = .ok (.iconst 0, 1) := by decide +kernel
theorem dX7_left_6 : decode cX7_left 6 = .ok (.goto 6, 3) := by decide +kernel
theorem dX7_left_9 : decode cX7_left 9 = .ok (.iload_n 0, 1) := by decide +kernel
theorem dX7_left_10 : decode cX7_left 10 = .ok (.iload_n 1, 1) := by decide +kernel
theorem dX7_left_11 : decode cX7_left 11 = .ok (.irem, 1) := by decide +kernel
theorem dX7_left_12 : decode cX7_left 12 = .ok (.ireturn, 1) := by decide +kernel
theorem dX7_commonMeasure_0 : decode cX7_commonMeasure 0 = .ok (.iconst 0, 1) := by decide +kernel
theorem dX7_commonMeasure_1 : decode cX7_commonMeasure 1 = .ok (.istore 4, 2) := by decide +kernel
theorem dX7_commonMeasure_3 : decode cX7_commonMeasure 3 = .ok (.iload 4, 2) := by decide +kernel
theorem dX7_commonMeasure_5 : decode cX7_commonMeasure 5 = .ok (.bipush 100, 2) := by decide +kernel
theorem dX7_commonMeasure_7 : decode cX7_commonMeasure 7 = .ok (.if_icmp .ge 25, 3) := by decide +kernel
theorem dX7_commonMeasure_10 : decode cX7_commonMeasure 10 = .ok (.lload_n 2, 1) := by decide +kernel
theorem dX7_commonMeasure_11 : decode cX7_commonMeasure 11 = .ok (.lconst 0, 1) := by decide +kernel
theorem dX7_commonMeasure_12 : decode cX7_commonMeasure 12 = .ok (.lcmp, 1) := by decide +kernel
theorem dX7_commonMeasure_13 : decode cX7_commonMeasure 13 = .ok (.ifCond .eq 19, 3) := by decide +kernel
theorem dX7_commonMeasure_16 : decode cX7_commonMeasure 16 = .ok (.lload_n 0, 1) := by decide +kernel
theorem dX7_commonMeasure_17 : decode cX7_commonMeasure 17 = .ok (.lload_n 2, 1) := by decide +kernel
theorem dX7_commonMeasure_18 : decode cX7_commonMeasure 18 = .ok (.lrem, 1) := by decide +kernel
theorem dX7_commonMeasure_19 : decode cX7_commonMeasure 19 = .ok (.lstore 5, 2) := by decide +kernel
theorem dX7_commonMeasure_21 : decode cX7_commonMeasure 21 = .ok (.lload_n 2, 1) := by decide +kernel
theorem dX7_commonMeasure_22 : decode cX7_commonMeasure 22 = .ok (.lstore_n 0, 1) := by decide +kernel
theorem dX7_commonMeasure_23 : decode cX7_commonMeasure 23 = .ok (.lload 5, 2) := by decide +kernel
theorem dX7_commonMeasure_25 : decode cX7_commonMeasure 25 = .ok (.lstore_n 2, 1) := by decide +kernel
theorem dX7_commonMeasure_26 : decode cX7_commonMeasure 26 = .ok (.iinc 4 1, 3) := by decide +kernel
theorem dX7_commonMeasure_29 : decode cX7_commonMeasure 29 = .ok (.goto (-26), 3) := by decide +kernel
theorem dX7_commonMeasure_32 : decode cX7_commonMeasure 32 = .ok (.lload_n 0, 1) := by decide +kernel
theorem dX7_commonMeasure_33 : decode cX7_commonMeasure 33 = .ok (.lreturn, 1) := by decide +kernel
set_option maxRecDepth 20000 in
theorem gd_wsX7_commonMeasure : wsX7_commonMeasure.all goodWord = true := by decide +kernel
set_option maxRecDepth 100000 in
theorem ggX7_commonRound_X7_commonMeasure : GoodIn wsX7_commonRound wsX7_commonMeasure := goodIn_r _ [4] rfl gd_wsX7_commonMeasure
set_option maxRecDepth 100000 in
theorem gX7_commonRound_X7_commonMeasure : GoodIn wsX7_commonRound (va_wsS RX7 385 yX7_commonMeasure wsX7_commonMeasure) := goodIn_app (goodIn_r _ [1, 2, 3] rfl (by decide +kernel)) ggX7_commonRound_X7_commonMeasure
theorem dX7_commonRound_0 : decode cX7_commonRound 0 = .ok (.iload_n 0, 1) := by decide +kernel
theorem dX7_commonRound_1 : decode cX7_commonRound 1 = .ok (.i2l, 1) := by decide +kernel
theorem dX7_commonRound_2 : decode cX7_commonRound 2 = .ok (.iload_n 1, 1) := by decide +kernel
theorem dX7_commonRound_3 : decode cX7_commonRound 3 = .ok (.i2l, 1) := by decide +kernel
theorem dX7_commonRound_4 : decode cX7_commonRound 4 = .ok (.invokestatic 385, 3) := by decide +kernel
theorem dX7_commonRound_7 : decode cX7_commonRound 7 = .ok (.l2i, 1) := by decide +kernel
theorem dX7_commonRound_8 : decode cX7_commonRound 8 = .ok (.istore_n 2, 1) := by decide +kernel
theorem dX7_commonRound_9 : decode cX7_commonRound 9 = .ok (.iload_n 2, 1) := by decide +kernel
theorem dX7_commonRound_10 : decode cX7_commonRound 10 = .ok (.iconst 1, 1) := by decide +kernel
theorem dX7_commonRound_11 : decode cX7_commonRound 11 = .ok (.if_icmp .ge 7, 3) := by decide +kernel
theorem dX7_commonRound_14 : decode cX7_commonRound 14 = .ok (.iconst 1, 1) := by decide +kernel
theorem dX7_commonRound_15 : decode cX7_commonRound 15 = .ok (.goto 8, 3) := by decide +kernel
theorem dX7_commonRound_18 : decode cX7_commonRound 18 = .ok (.iload_n 0, 1) := by decide +kernel
theorem dX7_commonRound_19 : decode cX7_commonRound 19 = .ok (.iload_n 2, 1) := by decide +kernel
theorem dX7_commonRound_20 : decode cX7_commonRound 20 = .ok (.idiv, 1) := by decide +kernel
theorem dX7_commonRound_21 : decode cX7_commonRound 21 = .ok (.iload_n 1, 1) := by decide +kernel
theorem dX7_commonRound_22 : decode cX7_commonRound 22 = .ok (.imul, 1) := by decide +kernel
theorem dX7_commonRound_23 : decode cX7_commonRound 23 = .ok (.ireturn, 1) := by decide +kernel
set_option maxRecDepth 100000 in
theorem ggX7_lowest_X7_commonMeasure : GoodIn wsX7_lowest wsX7_commonMeasure := goodIn_r _ [4] rfl gd_wsX7_commonMeasure
set_option maxRecDepth 100000 in
theorem gX7_lowest_X7_commonMeasure : GoodIn wsX7_lowest (va_wsS RX7 385 yX7_commonMeasure wsX7_commonMeasure) := goodIn_app (goodIn_r _ [1, 2, 3] rfl (by decide +kernel)) ggX7_lowest_X7_commonMeasure
theorem dX7_lowest_0 : decode cX7_lowest 0 = .ok (.lload_n 0, 1) := by decide +kernel
theorem dX7_lowest_1 : decode cX7_lowest 1 = .ok (.lload_n 2, 1) := by decide +kernel
theorem dX7_lowest_2 : decode cX7_lowest 2 = .ok (.invokestatic 385, 3) := by decide +kernel
theorem dX7_lowest_5 : decode cX7_lowest 5 = .ok (.lstore 5, 2) := by decide +kernel
theorem dX7_lowest_7 : decode cX7_lowest 7 = .ok (.lload 5, 2) := by decide +kernel
theorem dX7_lowest_9 : decode cX7_lowest 9 = .ok (.lconst 1, 1) := by decide +kernel
theorem dX7_lowest_10 : decode cX7_lowest 10 = .ok (.lcmp, 1) := by decide +kernel
theorem dX7_lowest_11 : decode cX7_lowest 11 = .ok (.ifCond .ge 5, 3) := by decide +kernel
theorem dX7_lowest_14 : decode cX7_lowest 14 = .ok (.lconst 0, 1) := by decide +kernel
theorem dX7_lowest_15 : decode cX7_lowest 15 = .ok (.lreturn, 1) := by decide +kernel
theorem dX7_lowest_16 : decode cX7_lowest 16 = .ok (.iload 4, 2) := by decide +kernel
theorem dX7_lowest_18 : decode cX7_lowest 18 = .ok (.ifCond .ne 7, 3) := by decide +kernel
theorem dX7_lowest_21 : decode cX7_lowest 21 = .ok (.lload_n 0, 1) := by decide +kernel
theorem dX7_lowest_22 : decode cX7_lowest 22 = .ok (.goto 4, 3) := by decide +kernel
theorem dX7_lowest_25 : decode cX7_lowest 25 = .ok (.lload_n 2, 1) := by decide +kernel
theorem dX7_lowest_26 : decode cX7_lowest 26 = .ok (.lload 5, 2) := by decide +kernel
theorem dX7_lowest_28 : decode cX7_lowest 28 = .ok (.ldiv, 1) := by decide +kernel
theorem dX7_lowest_29 : decode cX7_lowest 29 = .ok (.lreturn, 1) := by decide +kernel
