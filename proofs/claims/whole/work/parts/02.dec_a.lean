theorem dX0_init_0 : decode cX0_init 0 = .ok (.aload_n 0, 1) := by decide +kernel
theorem dX0_init_1 : decode cX0_init 1 = .ok (.invokespecial 1, 3) := by decide +kernel
theorem dX0_init_4 : decode cX0_init 4 = .ok (.aload_n 0, 1) := by decide +kernel
theorem dX0_init_5 : decode cX0_init 5 = .ok (.bipush 40, 2) := by decide +kernel
theorem dX0_init_7 : decode cX0_init 7 = .ok (.newarray .int, 2) := by decide +kernel
theorem dX0_init_9 : decode cX0_init 9 = .ok (.putfield 9, 3) := by decide +kernel
theorem dX0_init_12 : decode cX0_init 12 = .ok (.aload_n 0, 1) := by decide +kernel
theorem dX0_init_13 : decode cX0_init 13 = .ok (.bipush 40, 2) := by decide +kernel
theorem dX0_init_15 : decode cX0_init 15 = .ok (.newarray .int, 2) := by decide +kernel
theorem dX0_init_17 : decode cX0_init 17 = .ok (.putfield 13, 3) := by decide +kernel
theorem dX0_init_20 : decode cX0_init 20 = .ok (.aload_n 0, 1) := by decide +kernel
theorem dX0_init_21 : decode cX0_init 21 = .ok (.bipush 40, 2) := by decide +kernel
theorem dX0_init_23 : decode cX0_init 23 = .ok (.newarray .int, 2) := by decide +kernel
theorem dX0_init_25 : decode cX0_init 25 = .ok (.putfield 16, 3) := by decide +kernel
theorem dX0_init_28 : decode cX0_init 28 = .ok (.aload_n 0, 1) := by decide +kernel
theorem dX0_init_29 : decode cX0_init 29 = .ok (.bipush 40, 2) := by decide +kernel
theorem dX0_init_31 : decode cX0_init 31 = .ok (.newarray .int, 2) := by decide +kernel
theorem dX0_init_33 : decode cX0_init 33 = .ok (.putfield 19, 3) := by decide +kernel
theorem dX0_init_36 : decode cX0_init 36 = .ok (.return_, 1) := by decide +kernel
set_option maxRecDepth 20000 in
theorem gd_wsX0_dropFirst : wsX0_dropFirst.all goodWord = true := by decide +kernel
set_option maxRecDepth 100000 in
theorem ggX0_note_X0_dropFirst : GoodIn wsX0_note wsX0_dropFirst := goodIn_r _ [11, 2, 12, 13, 14, 15, 3, 4, 5, 1, 16, 17, 18, 19, 20, 21] rfl gd_wsX0_dropFirst
set_option maxRecDepth 100000 in
theorem gX0_note_X0_dropFirst : GoodIn wsX0_note (wsV RX0 26 RX0 yX0_dropFirst wsX0_dropFirst) := goodIn_app (goodIn_r _ [7, 8, 9, 10] rfl (by decide +kernel)) ggX0_note_X0_dropFirst
theorem dX0_note_0 : decode cX0_note 0 = .ok (.aload_n 0, 1) := by decide +kernel
theorem dX0_note_1 : decode cX0_note 1 = .ok (.getfield 22, 3) := by decide +kernel
theorem dX0_note_4 : decode cX0_note 4 = .ok (.bipush 40, 2) := by decide +kernel
theorem dX0_note_6 : decode cX0_note 6 = .ok (.if_icmp .lt 7, 3) := by decide +kernel
theorem dX0_note_9 : decode cX0_note 9 = .ok (.aload_n 0, 1) := by decide +kernel
theorem dX0_note_10 : decode cX0_note 10 = .ok (.invokevirtual 26, 3) := by decide +kernel
theorem dX0_note_13 : decode cX0_note 13 = .ok (.aload_n 0, 1) := by decide +kernel
theorem dX0_note_14 : decode cX0_note 14 = .ok (.getfield 9, 3) := by decide +kernel
theorem dX0_note_17 : decode cX0_note 17 = .ok (.aload_n 0, 1) := by decide +kernel
theorem dX0_note_18 : decode cX0_note 18 = .ok (.getfield 22, 3) := by decide +kernel
theorem dX0_note_21 : decode cX0_note 21 = .ok (.iload_n 1, 1) := by decide +kernel
theorem dX0_note_22 : decode cX0_note 22 = .ok (.iastore, 1) := by decide +kernel
theorem dX0_note_23 : decode cX0_note 23 = .ok (.aload_n 0, 1) := by decide +kernel
theorem dX0_note_24 : decode cX0_note 24 = .ok (.getfield 13, 3) := by decide +kernel
theorem dX0_note_27 : decode cX0_note 27 = .ok (.aload_n 0, 1) := by decide +kernel
theorem dX0_note_28 : decode cX0_note 28 = .ok (.getfield 22, 3) := by decide +kernel
theorem dX0_note_31 : decode cX0_note 31 = .ok (.iload_n 2, 1) := by decide +kernel
theorem dX0_note_32 : decode cX0_note 32 = .ok (.iastore, 1) := by decide +kernel
theorem dX0_note_33 : decode cX0_note 33 = .ok (.aload_n 0, 1) := by decide +kernel
theorem dX0_note_34 : decode cX0_note 34 = .ok (.getfield 16, 3) := by decide +kernel
theorem dX0_note_37 : decode cX0_note 37 = .ok (.aload_n 0, 1) := by decide +kernel
theorem dX0_note_38 : decode cX0_note 38 = .ok (.getfield 22, 3) := by decide +kernel
theorem dX0_note_41 : decode cX0_note 41 = .ok (.iload_n 3, 1) := by decide +kernel
theorem dX0_note_42 : decode cX0_note 42 = .ok (.iastore, 1) := by decide +kernel
theorem dX0_note_43 : decode cX0_note 43 = .ok (.aload_n 0, 1) := by decide +kernel
theorem dX0_note_44 : decode cX0_note 44 = .ok (.getfield 19, 3) := by decide +kernel
theorem dX0_note_47 : decode cX0_note 47 = .ok (.aload_n 0, 1) := by decide +kernel
theorem dX0_note_48 : decode cX0_note 48 = .ok (.getfield 22, 3) := by decide +kernel
theorem dX0_note_51 : decode cX0_note 51 = .ok (.iload 4, 2) := by decide +kernel
theorem dX0_note_53 : decode cX0_note 53 = .ok (.iastore, 1) := by decide +kernel
theorem dX0_note_54 : decode cX0_note 54 = .ok (.aload_n 0, 1) := by decide +kernel
theorem dX0_note_55 : decode cX0_note 55 = .ok (.dup, 1) := by decide +kernel
theorem dX0_note_56 : decode cX0_note 56 = .ok (.getfield 22, 3) := by decide +kernel
theorem dX0_note_59 : decode cX0_note 59 = .ok (.iconst 1, 1) := by decide +kernel
theorem dX0_note_60 : decode cX0_note 60 = .ok (.iadd, 1) := by decide +kernel
theorem dX0_note_61 : decode cX0_note 61 = .ok (.putfield 22, 3) := by decide +kernel
theorem dX0_note_64 : decode cX0_note 64 = .ok (.aload_n 0, 1) := by decide +kernel
theorem dX0_note_65 : decode cX0_note 65 = .ok (.aload_n 0, 1) := by decide +kernel
theorem dX0_note_66 : decode cX0_note 66 = .ok (.getfield 22, 3) := by decide +kernel
theorem dX0_note_69 : decode cX0_note 69 = .ok (.putfield 29, 3) := by decide +kernel
theorem dX0_note_72 : decode cX0_note 72 = .ok (.return_, 1) := by decide +kernel
theorem dX0_dropFirst_0 : decode cX0_dropFirst 0 = .ok (.aload_n 0, 1) := by decide +kernel
theorem dX0_dropFirst_1 : decode cX0_dropFirst 1 = .ok (.getfield 9, 3) := by decide +kernel
theorem dX0_dropFirst_4 : decode cX0_dropFirst 4 = .ok (.iconst 1, 1) := by decide +kernel
theorem dX0_dropFirst_5 : decode cX0_dropFirst 5 = .ok (.aload_n 0, 1) := by decide +kernel
theorem dX0_dropFirst_6 : decode cX0_dropFirst 6 = .ok (.getfield 9, 3) := by decide +kernel
theorem dX0_dropFirst_9 : decode cX0_dropFirst 9 = .ok (.iconst 0, 1) := by decide +kernel
theorem dX0_dropFirst_10 : decode cX0_dropFirst 10 = .ok (.bipush 39, 2) := by decide +kernel
theorem dX0_dropFirst_12 : decode cX0_dropFirst 12 = .ok (.invokestatic 32, 3) := by decide +kernel
theorem dX0_dropFirst_15 : decode cX0_dropFirst 15 = .ok (.aload_n 0, 1) := by decide +kernel
theorem dX0_dropFirst_16 : decode cX0_dropFirst 16 = .ok (.getfield 13, 3) := by decide +kernel
theorem dX0_dropFirst_19 : decode cX0_dropFirst 19 = .ok (.iconst 1, 1) := by decide +kernel
theorem dX0_dropFirst_20 : decode cX0_dropFirst 20 = .ok (.aload_n 0, 1) := by decide +kernel
theorem dX0_dropFirst_21 : decode cX0_dropFirst 21 = .ok (.getfield 13, 3) := by decide +kernel
theorem dX0_dropFirst_24 : decode cX0_dropFirst 24 = .ok (.iconst 0, 1) := by decide +kernel
theorem dX0_dropFirst_25 : decode cX0_dropFirst 25 = .ok (.bipush 39, 2) := by decide +kernel
theorem dX0_dropFirst_27 : decode cX0_dropFirst 27 = .ok (.invokestatic 32, 3) := by decide +kernel
theorem dX0_dropFirst_30 : decode cX0_dropFirst 30 = .ok (.aload_n 0, 1) := by decide +kernel
theorem dX0_dropFirst_31 : decode cX0_dropFirst 31 = .ok (.getfield 16, 3) := by decide +kernel
theorem dX0_dropFirst_34 : decode cX0_dropFirst 34 = .ok (.iconst 1, 1) := by decide +kernel
theorem dX0_dropFirst_35 : decode cX0_dropFirst 35 = .ok (.aload_n 0, 1) := by decide +kernel
theorem dX0_dropFirst_36 : decode cX0_dropFirst 36 = .ok (.getfield 16, 3) := by decide +kernel
theorem dX0_dropFirst_39 : decode cX0_dropFirst 39 = .ok (.iconst 0, 1) := by decide +kernel
theorem dX0_dropFirst_40 : decode cX0_dropFirst 40 = .ok (.bipush 39, 2) := by decide +kernel
theorem dX0_dropFirst_42 : decode cX0_dropFirst 42 = .ok (.invokestatic 32, 3) := by decide +kernel
theorem dX0_dropFirst_45 : decode cX0_dropFirst 45 = .ok (.aload_n 0, 1) := by decide +kernel
theorem dX0_dropFirst_46 : decode cX0_dropFirst 46 = .ok (.getfield 19, 3) := by decide +kernel
theorem dX0_dropFirst_49 : decode cX0_dropFirst 49 = .ok (.iconst 1, 1) := by decide +kernel
theorem dX0_dropFirst_50 : decode cX0_dropFirst 50 = .ok (.aload_n 0, 1) := by decide +kernel
theorem dX0_dropFirst_51 : decode cX0_dropFirst 51 = .ok (.getfield 19, 3) := by decide +kernel
theorem dX0_dropFirst_54 : decode cX0_dropFirst 54 = .ok (.iconst 0, 1) := by decide +kernel
theorem dX0_dropFirst_55 : decode cX0_dropFirst 55 = .ok (.bipush 39, 2) := by decide +kernel
theorem dX0_dropFirst_57 : decode cX0_dropFirst 57 = .ok (.invokestatic 32, 3) := by decide +kernel
theorem dX0_dropFirst_60 : decode cX0_dropFirst 60 = .ok (.aload_n 0, 1) := by decide +kernel
theorem dX0_dropFirst_61 : decode cX0_dropFirst 61 = .ok (.bipush 39, 2) := by decide +kernel
theorem dX0_dropFirst_63 : decode cX0_dropFirst 63 = .ok (.putfield 22, 3) := by decide +kernel
theorem dX0_dropFirst_66 : decode cX0_dropFirst 66 = .ok (.return_, 1) := by decide +kernel
theorem dX0_stepBack_0 : decode cX0_stepBack 0 = .ok (.aload_n 0, 1) := by decide +kernel
theorem dX0_stepBack_1 : decode cX0_stepBack 1 = .ok (.dup, 1) := by decide +kernel
theorem dX0_stepBack_2 : decode cX0_stepBack 2 = .ok (.getfield 22, 3) := by decide +kernel
theorem dX0_stepBack_5 : decode cX0_stepBack 5 = .ok (.iconst 1, 1) := by decide +kernel
theorem dX0_stepBack_6 : decode cX0_stepBack 6 = .ok (.isub, 1) := by decide +kernel
theorem dX0_stepBack_7 : decode cX0_stepBack 7 = .ok (.putfield 22, 3) := by decide +kernel
theorem dX0_stepBack_10 : decode cX0_stepBack 10 = .ok (.aload_n 0, 1) := by decide +kernel
theorem dX0_stepBack_11 : decode cX0_stepBack 11 = .ok (.getfield 22, 3) := by decide +kernel
theorem dX0_stepBack_14 : decode cX0_stepBack 14 = .ok (.ireturn, 1) := by decide +kernel
theorem dX0_stepOn_0 : decode cX0_stepOn 0 = .ok (.aload_n 0, 1) := by decide +kernel
theorem dX0_stepOn_1 : decode cX0_stepOn 1 = .ok (.dup, 1) := by decide +kernel
theorem dX0_stepOn_2 : decode cX0_stepOn 2 = .ok (.getfield 22, 3) := by decide +kernel
theorem dX0_stepOn_5 : decode cX0_stepOn 5 = .ok (.iconst 1, 1) := by decide +kernel
theorem dX0_stepOn_6 : decode cX0_stepOn 6 = .ok (.iadd, 1) := by decide +kernel
theorem dX0_stepOn_7 : decode cX0_stepOn 7 = .ok (.putfield 22, 3) := by decide +kernel
theorem dX0_stepOn_10 : decode cX0_stepOn 10 = .ok (.aload_n 0, 1) := by decide +kernel
theorem dX0_stepOn_11 : decode cX0_stepOn 11 = .ok (.getfield 22, 3) := by decide +kernel
theorem dX0_stepOn_14 : decode cX0_stepOn 14 = .ok (.iconst 1, 1) := by decide +kernel
theorem dX0_stepOn_15 : decode cX0_stepOn 15 = .ok (.isub, 1) := by decide +kernel
theorem dX0_stepOn_16 : decode cX0_stepOn 16 = .ok (.ireturn, 1) := by decide +kernel
theorem dX1_init_0 : decode cX1_init 0 = .ok (.aload_n 0, 1) := by decide +kernel
theorem dX1_init_1 : decode cX1_init 1 = .ok (.invokespecial 3, 3) := by decide +kernel
theorem dX1_init_4 : decode cX1_init 4 = .ok (.aload_n 0, 1) := by decide +kernel
theorem dX1_init_5 : decode cX1_init 5 = .ok (.bipush 10, 2) := by decide +kernel
theorem dX1_init_7 : decode cX1_init 7 = .ok (.newarray .int, 2) := by decide +kernel
theorem dX1_init_9 : decode cX1_init 9 = .ok (.putfield 11, 3) := by decide +kernel
theorem dX1_init_12 : decode cX1_init 12 = .ok (.aload_n 0, 1) := by decide +kernel
theorem dX1_init_13 : decode cX1_init 13 = .ok (.bipush 10, 2) := by decide +kernel
theorem dX1_init_15 : decode cX1_init 15 = .ok (.newarray .int, 2) := by decide +kernel
theorem dX1_init_17 : decode cX1_init 17 = .ok (.putfield 15, 3) := by decide +kernel
theorem dX1_init_20 : decode cX1_init 20 = .ok (.aload_n 0, 1) := by decide +kernel
theorem dX1_init_21 : decode cX1_init 21 = .ok (.bipush 10, 2) := by decide +kernel
theorem dX1_init_23 : decode cX1_init 23 = .ok (.newarray .int, 2) := by decide +kernel
theorem dX1_init_25 : decode cX1_init 25 = .ok (.putfield 18, 3) := by decide +kernel
theorem dX1_init_28 : decode cX1_init 28 = .ok (.aload_n 0, 1) := by decide +kernel
theorem dX1_init_29 : decode cX1_init 29 = .ok (.bipush 10, 2) := by decide +kernel
theorem dX1_init_31 : decode cX1_init 31 = .ok (.newarray .int, 2) := by decide +kernel
theorem dX1_init_33 : decode cX1_init 33 = .ok (.putfield 21, 3) := by decide +kernel
theorem dX1_init_36 : decode cX1_init 36 = .ok (.aload_n 0, 1) := by decide +kernel
theorem dX1_init_37 : decode cX1_init 37 = .ok (.bipush 6, 2) := by decide +kernel
theorem dX1_init_39 : decode cX1_init 39 = .ok (.newarray .int, 2) := by decide +kernel
theorem dX1_init_41 : decode cX1_init 41 = .ok (.putfield 24, 3) := by decide +kernel
theorem dX1_init_44 : decode cX1_init 44 = .ok (.return_, 1) := by decide +kernel
theorem dX1_add_0 : decode cX1_add 0 = .ok (.aload_n 0, 1) := by decide +kernel
theorem dX1_add_1 : decode cX1_add 1 = .ok (.getfield 11, 3) := by decide +kernel
theorem dX1_add_4 : decode cX1_add 4 = .ok (.aload_n 0, 1) := by decide +kernel
theorem dX1_add_5 : decode cX1_add 5 = .ok (.getfield 27, 3) := by decide +kernel
theorem dX1_add_8 : decode cX1_add 8 = .ok (.iload_n 1, 1) := by decide +kernel
theorem dX1_add_9 : decode cX1_add 9 = .ok (.iastore, 1) := by decide +kernel
theorem dX1_add_10 : decode cX1_add 10 = .ok (.aload_n 0, 1) := by decide +kernel
theorem dX1_add_11 : decode cX1_add 11 = .ok (.getfield 15, 3) := by decide +kernel
theorem dX1_add_14 : decode cX1_add 14 = .ok (.aload_n 0, 1) := by decide +kernel
theorem dX1_add_15 : decode cX1_add 15 = .ok (.getfield 27, 3) := by decide +kernel
theorem dX1_add_18 : decode cX1_add 18 = .ok (.iload_n 2, 1) := by decide +kernel
theorem dX1_add_19 : decode cX1_add 19 = .ok (.iastore, 1) := by decide +kernel
theorem dX1_add_20 : decode cX1_add 20 = .ok (.aload_n 0, 1) := by decide +kernel
theorem dX1_add_21 : decode cX1_add 21 = .ok (.getfield 18, 3) := by decide +kernel
theorem dX1_add_24 : decode cX1_add 24 = .ok (.aload_n 0, 1) := by decide +kernel
theorem dX1_add_25 : decode cX1_add 25 = .ok (.getfield 27, 3) := by decide +kernel
theorem dX1_add_28 : decode cX1_add 28 = .ok (.iload_n 1, 1) := by decide +kernel
theorem dX1_add_29 : decode cX1_add 29 = .ok (.iastore, 1) := by decide +kernel
theorem dX1_add_30 : decode cX1_add 30 = .ok (.aload_n 0, 1) := by decide +kernel
theorem dX1_add_31 : decode cX1_add 31 = .ok (.getfield 21, 3) := by decide +kernel
theorem dX1_add_34 : decode cX1_add 34 = .ok (.aload_n 0, 1) := by decide +kernel
theorem dX1_add_35 : decode cX1_add 35 = .ok (.getfield 27, 3) := by decide +kernel
theorem dX1_add_38 : decode cX1_add 38 = .ok (.bipush (-2), 2) := by decide +kernel
theorem dX1_add_40 : decode cX1_add 40 = .ok (.iastore, 1) := by decide +kernel
theorem dX1_add_41 : decode cX1_add 41 = .ok (.aload_n 0, 1) := by decide +kernel
theorem dX1_add_42 : decode cX1_add 42 = .ok (.dup, 1) := by decide +kernel
theorem dX1_add_43 : decode cX1_add 43 = .ok (.getfield 27, 3) := by decide +kernel
theorem dX1_add_46 : decode cX1_add 46 = .ok (.iconst 1, 1) := by decide +kernel
theorem dX1_add_47 : decode cX1_add 47 = .ok (.iadd, 1) := by decide +kernel
theorem dX1_add_48 : decode cX1_add 48 = .ok (.putfield 27, 3) := by decide +kernel
theorem dX1_add_51 : decode cX1_add 51 = .ok (.aload_n 0, 1) := by decide +kernel
theorem dX1_add_52 : decode cX1_add 52 = .ok (.getfield 27, 3) := by decide +kernel
theorem dX1_add_55 : decode cX1_add 55 = .ok (.iconst 1, 1) := by decide +kernel
theorem dX1_add_56 : decode cX1_add 56 = .ok (.isub, 1) := by decide +kernel
theorem dX1_add_57 : decode cX1_add 57 = .ok (.ireturn, 1) := by decide +kernel
theorem dX1_handOn_0 : decode cX1_handOn 0 = .ok (.aload_n 0, 1) := by decide +kernel
theorem dX1_handOn_1 : decode cX1_handOn 1 = .ok (.getfield 24, 3) := by decide +kernel
theorem dX1_handOn_4 : decode cX1_handOn 4 = .ok (.aload_n 0, 1) := by decide +kernel
theorem dX1_handOn_5 : decode cX1_handOn 5 = .ok (.getfield 18, 3) := by decide +kernel
theorem dX1_handOn_8 : decode cX1_handOn 8 = .ok (.iload_n 1, 1) := by decide +kernel
theorem dX1_handOn_9 : decode cX1_handOn 9 = .ok (.iaload, 1) := by decide +kernel
theorem dX1_handOn_10 : decode cX1_handOn 10 = .ok (.dup2, 1) := by decide +kernel
theorem dX1_handOn_11 : decode cX1_handOn 11 = .ok (.iaload, 1) := by decide +kernel
theorem dX1_handOn_12 : decode cX1_handOn 12 = .ok (.iconst 1, 1) := by decide +kernel
theorem dX1_handOn_13 : decode cX1_handOn 13 = .ok (.iadd, 1) := by decide +kernel
theorem dX1_handOn_14 : decode cX1_handOn 14 = .ok (.iastore, 1) := by decide +kernel
theorem dX1_handOn_15 : decode cX1_handOn 15 = .ok (.aload_n 0, 1) := by decide +kernel
theorem dX1_handOn_16 : decode cX1_handOn 16 = .ok (.getfield 18, 3) := by decide +kernel
theorem dX1_handOn_19 : decode cX1_handOn 19 = .ok (.iload_n 1, 1) := by decide +kernel
theorem dX1_handOn_20 : decode cX1_handOn 20 = .ok (.iload_n 3, 1) := by decide +kernel
theorem dX1_handOn_21 : decode cX1_handOn 21 = .ok (.ifCond .eq 8, 3) := by decide +kernel
theorem dX1_handOn_24 : decode cX1_handOn 24 = .ok (.bipush (-2), 2) := by decide +kernel
theorem dX1_handOn_26 : decode cX1_handOn 26 = .ok (.goto 4, 3) := by decide +kernel
theorem dX1_handOn_29 : decode cX1_handOn 29 = .ok (.iload_n 2, 1) := by decide +kernel
theorem dX1_handOn_30 : decode cX1_handOn 30 = .ok (.iastore, 1) := by decide +kernel
theorem dX1_handOn_31 : decode cX1_handOn 31 = .ok (.aload_n 0, 1) := by decide +kernel
theorem dX1_handOn_32 : decode cX1_handOn 32 = .ok (.getfield 18, 3) := by decide +kernel
theorem dX1_handOn_35 : decode cX1_handOn 35 = .ok (.iload_n 1, 1) := by decide +kernel
theorem dX1_handOn_36 : decode cX1_handOn 36 = .ok (.iaload, 1) := by decide +kernel
theorem dX1_handOn_37 : decode cX1_handOn 37 = .ok (.aload_n 0, 1) := by decide +kernel
theorem dX1_handOn_38 : decode cX1_handOn 38 = .ok (.getfield 15, 3) := by decide +kernel
theorem dX1_handOn_41 : decode cX1_handOn 41 = .ok (.iload_n 1, 1) := by decide +kernel
theorem dX1_handOn_42 : decode cX1_handOn 42 = .ok (.iaload, 1) := by decide +kernel
theorem dX1_handOn_43 : decode cX1_handOn 43 = .ok (.if_icmp .ne 15, 3) := by decide +kernel
theorem dX1_handOn_46 : decode cX1_handOn 46 = .ok (.aload_n 0, 1) := by decide +kernel
theorem dX1_handOn_47 : decode cX1_handOn 47 = .ok (.getfield 21, 3) := by decide +kernel
theorem dX1_handOn_50 : decode cX1_handOn 50 = .ok (.iload_n 1, 1) := by decide +kernel
theorem dX1_handOn_51 : decode cX1_handOn 51 = .ok (.aload_n 0, 1) := by decide +kernel
theorem dX1_handOn_52 : decode cX1_handOn 52 = .ok (.getfield 31, 3) := by decide +kernel
theorem dX1_handOn_55 : decode cX1_handOn 55 = .ok (.iconst 1, 1) := by decide +kernel
theorem dX1_handOn_56 : decode cX1_handOn 56 = .ok (.iadd, 1) := by decide +kernel
theorem dX1_handOn_57 : decode cX1_handOn 57 = .ok (.iastore, 1) := by decide +kernel
theorem dX1_handOn_58 : decode cX1_handOn 58 = .ok (.return_, 1) := by decide +kernel
theorem dX1_arrived_0 : decode cX1_arrived 0 = .ok (.iconst 0, 1) := by decide +kernel
theorem dX1_arrived_1 : decode cX1_arrived 1 = .ok (.istore_n 1, 1) := by decide +kernel
theorem dX1_arrived_2 : decode cX1_arrived 2 = .ok (.iconst 0, 1) := by decide +kernel
theorem dX1_arrived_3 : decode cX1_arrived 3 = .ok (.istore_n 2, 1) := by decide +kernel
theorem dX1_arrived_4 : decode cX1_arrived 4 = .ok (.iload_n 2, 1) := by decide +kernel
theorem dX1_arrived_5 : decode cX1_arrived 5 = .ok (.aload_n 0, 1) := by decide +kernel
theorem dX1_arrived_6 : decode cX1_arrived 6 = .ok (.getfield 27, 3) := by decide +kernel
theorem dX1_arrived_9 : decode cX1_arrived 9 = .ok (.if_icmp .ge 23, 3) := by decide +kernel
theorem dX1_arrived_12 : decode cX1_arrived 12 = .ok (.aload_n 0, 1) := by decide +kernel
theorem dX1_arrived_13 : decode cX1_arrived 13 = .ok (.getfield 21, 3) := by decide +kernel
theorem dX1_arrived_16 : decode cX1_arrived 16 = .ok (.iload_n 2, 1) := by decide +kernel
theorem dX1_arrived_17 : decode cX1_arrived 17 = .ok (.iaload, 1) := by decide +kernel
theorem dX1_arrived_18 : decode cX1_arrived 18 = .ok (.bipush (-2), 2) := by decide +kernel
theorem dX1_arrived_20 : decode cX1_arrived 20 = .ok (.if_icmp .eq 6, 3) := by decide +kernel
theorem dX1_arrived_23 : decode cX1_arrived 23 = .ok (.iinc 1 1, 3) := by decide +kernel
theorem dX1_arrived_26 : decode cX1_arrived 26 = .ok (.iinc 2 1, 3) := by decide +kernel
theorem dX1_arrived_29 : decode cX1_arrived 29 = .ok (.goto (-25), 3) := by decide +kernel
theorem dX1_arrived_32 : decode cX1_arrived 32 = .ok (.iload_n 1, 1) := by decide +kernel
theorem dX1_arrived_33 : decode cX1_arrived 33 = .ok (.ireturn, 1) := by decide +kernel
theorem dX1_ofMessage_0 : decode cX1_ofMessage 0 = .ok (.iload_n 2, 1) := by decide +kernel
theorem dX1_ofMessage_1 : decode cX1_ofMessage 1 = .ok (.tableswitch 59 0 3 #[31, 38, 45, 52], 31) := by decide +kernel
theorem dX1_ofMessage_32 : decode cX1_ofMessage 32 = .ok (.aload_n 0, 1) := by decide +kernel
theorem dX1_ofMessage_33 : decode cX1_ofMessage 33 = .ok (.getfield 11, 3) := by decide +kernel
theorem dX1_ofMessage_36 : decode cX1_ofMessage 36 = .ok (.iload_n 1, 1) := by decide +kernel
theorem dX1_ofMessage_37 : decode cX1_ofMessage 37 = .ok (.iaload, 1) := by decide +kernel
theorem dX1_ofMessage_38 : decode cX1_ofMessage 38 = .ok (.ireturn, 1) := by decide +kernel
theorem dX1_ofMessage_39 : decode cX1_ofMessage 39 = .ok (.aload_n 0, 1) := by decide +kernel
theorem dX1_ofMessage_40 : decode cX1_ofMessage 40 = .ok (.getfield 15, 3) := by decide +kernel
theorem dX1_ofMessage_43 : decode cX1_ofMessage 43 = .ok (.iload_n 1, 1) := by decide +kernel
theorem dX1_ofMessage_44 : decode cX1_ofMessage 44 = .ok (.iaload, 1) := by decide +kernel
theorem dX1_ofMessage_45 : decode cX1_ofMessage 45 = .ok (.ireturn, 1) := by decide +kernel
theorem dX1_ofMessage_46 : decode cX1_ofMessage 46 = .ok (.aload_n 0, 1) := by decide +kernel
theorem dX1_ofMessage_47 : decode cX1_ofMessage 47 = .ok (.getfield 18, 3) := by decide +kernel
theorem dX1_ofMessage_50 : decode cX1_ofMessage 50 = .ok (.iload_n 1, 1) := by decide +kernel
theorem dX1_ofMessage_51 : decode cX1_ofMessage 51 = .ok (.iaload, 1) := by decide +kernel
theorem dX1_ofMessage_52 : decode cX1_ofMessage 52 = .ok (.ireturn, 1) := by decide +kernel
theorem dX1_ofMessage_53 : decode cX1_ofMessage 53 = .ok (.aload_n 0, 1) := by decide +kernel
theorem dX1_ofMessage_54 : decode cX1_ofMessage 54 = .ok (.getfield 21, 3) := by decide +kernel
theorem dX1_ofMessage_57 : decode cX1_ofMessage 57 = .ok (.iload_n 1, 1) := by decide +kernel
theorem dX1_ofMessage_58 : decode cX1_ofMessage 58 = .ok (.iaload, 1) := by decide +kernel
theorem dX1_ofMessage_59 : decode cX1_ofMessage 59 = .ok (.ireturn, 1) := by decide +kernel
theorem dX1_ofMessage_60 : decode cX1_ofMessage 60 = .ok (.iconst (-1), 1) := by decide +kernel
theorem dX1_ofMessage_61 : decode cX1_ofMessage 61 = .ok (.ireturn, 1) := by decide +kernel
theorem dX1_copy_0 : decode cX1_copy 0 = .ok (.aload_n 0, 1) := by decide +kernel
theorem dX1_copy_1 : decode cX1_copy 1 = .ok (.aload_n 1, 1) := by decide +kernel
theorem dX1_copy_2 : decode cX1_copy 2 = .ok (.getfield 31, 3) := by decide +kernel
theorem dX1_copy_5 : decode cX1_copy 5 = .ok (.putfield 31, 3) := by decide +kernel
theorem dX1_copy_8 : decode cX1_copy 8 = .ok (.aload_n 0, 1) := by decide +kernel
theorem dX1_copy_9 : decode cX1_copy 9 = .ok (.aload_n 1, 1) := by decide +kernel
theorem dX1_copy_10 : decode cX1_copy 10 = .ok (.getfield 27, 3) := by decide +kernel
theorem dX1_copy_13 : decode cX1_copy 13 = .ok (.putfield 27, 3) := by decide +kernel
theorem dX1_copy_16 : decode cX1_copy 16 = .ok (.aload_n 1, 1) := by decide +kernel
theorem dX1_copy_17 : decode cX1_copy 17 = .ok (.getfield 11, 3) := by decide +kernel
theorem dX1_copy_20 : decode cX1_copy 20 = .ok (.iconst 0, 1) := by decide +kernel
theorem dX1_copy_21 : decode cX1_copy 21 = .ok (.aload_n 0, 1) := by decide +kernel
theorem dX1_copy_22 : decode cX1_copy 22 = .ok (.getfield 11, 3) := by decide +kernel
theorem dX1_copy_25 : decode cX1_copy 25 = .ok (.iconst 0, 1) := by decide +kernel
theorem dX1_copy_26 : decode cX1_copy 26 = .ok (.bipush 10, 2) := by decide +kernel
theorem dX1_copy_28 : decode cX1_copy 28 = .ok (.invokestatic 34, 3) := by decide +kernel
theorem dX1_copy_31 : decode cX1_copy 31 = .ok (.aload_n 1, 1) := by decide +kernel
theorem dX1_copy_32 : decode cX1_copy 32 = .ok (.getfield 15, 3) := by decide +kernel
theorem dX1_copy_35 : decode cX1_copy 35 = .ok (.iconst 0, 1) := by decide +kernel
theorem dX1_copy_36 : decode cX1_copy 36 = .ok (.aload_n 0, 1) := by decide +kernel
theorem dX1_copy_37 : decode cX1_copy 37 = .ok (.getfield 15, 3) := by decide +kernel
theorem dX1_copy_40 : decode cX1_copy 40 = .ok (.iconst 0, 1) := by decide +kernel
theorem dX1_copy_41 : decode cX1_copy 41 = .ok (.bipush 10, 2) := by decide +kernel
theorem dX1_copy_43 : decode cX1_copy 43 = .ok (.invokestatic 34, 3) := by decide +kernel
theorem dX1_copy_46 : decode cX1_copy 46 = .ok (.aload_n 1, 1) := by decide +kernel
theorem dX1_copy_47 : decode cX1_copy 47 = .ok (.getfield 18, 3) := by decide +kernel
theorem dX1_copy_50 : decode cX1_copy 50 = .ok (.iconst 0, 1) := by decide +kernel
theorem dX1_copy_51 : decode cX1_copy 51 = .ok (.aload_n 0, 1) := by decide +kernel
theorem dX1_copy_52 : decode cX1_copy 52 = .ok (.getfield 18, 3) := by decide +kernel
theorem dX1_copy_55 : decode cX1_copy 55 = .ok (.iconst 0, 1) := by decide +kernel
theorem dX1_copy_56 : decode cX1_copy 56 = .ok (.bipush 10, 2) := by decide +kernel
theorem dX1_copy_58 : decode cX1_copy 58 = .ok (.invokestatic 34, 3) := by decide +kernel
theorem dX1_copy_61 : decode cX1_copy 61 = .ok (.aload_n 1, 1) := by decide +kernel
theorem dX1_copy_62 : decode cX1_copy 62 = .ok (.getfield 21, 3) := by decide +kernel
theorem dX1_copy_65 : decode cX1_copy 65 = .ok (.iconst 0, 1) := by decide +kernel
theorem dX1_copy_66 : decode cX1_copy 66 = .ok (.aload_n 0, 1) := by decide +kernel
theorem dX1_copy_67 : decode cX1_copy 67 = .ok (.getfield 21, 3) := by decide +kernel
theorem dX1_copy_70 : decode cX1_copy 70 = .ok (.iconst 0, 1) := by decide +kernel
theorem dX1_copy_71 : decode cX1_copy 71 = .ok (.bipush 10, 2) := by decide +kernel
theorem dX1_copy_73 : decode cX1_copy 73 = .ok (.invokestatic 34, 3) := by decide +kernel
theorem dX1_copy_76 : decode cX1_copy 76 = .ok (.aload_n 1, 1) := by decide +kernel
theorem dX1_copy_77 : decode cX1_copy 77 = .ok (.getfield 24, 3) := by decide +kernel
theorem dX1_copy_80 : decode cX1_copy 80 = .ok (.iconst 0, 1) := by decide +kernel
theorem dX1_copy_81 : decode cX1_copy 81 = .ok (.aload_n 0, 1) := by decide +kernel
theorem dX1_copy_82 : decode cX1_copy 82 = .ok (.getfield 24, 3) := by decide +kernel
theorem dX1_copy_85 : decode cX1_copy 85 = .ok (.iconst 0, 1) := by decide +kernel
theorem dX1_copy_86 : decode cX1_copy 86 = .ok (.bipush 6, 2) := by decide +kernel
theorem dX1_copy_88 : decode cX1_copy 88 = .ok (.invokestatic 34, 3) := by decide +kernel
theorem dX1_copy_91 : decode cX1_copy 91 = .ok (.return_, 1) := by decide +kernel
theorem dX2_init_0 : decode cX2_init 0 = .ok (.aload_n 0, 1) := by decide +kernel
theorem dX2_init_1 : decode cX2_init 1 = .ok (.invokespecial 1, 3) := by decide +kernel
theorem dX2_init_4 : decode cX2_init 4 = .ok (.aload_n 0, 1) := by decide +kernel
theorem dX2_init_5 : decode cX2_init 5 = .ok (.bipush 6, 2) := by decide +kernel
theorem dX2_init_7 : decode cX2_init 7 = .ok (.newarray .int, 2) := by decide +kernel
theorem dX2_init_9 : decode cX2_init 9 = .ok (.putfield 7, 3) := by decide +kernel
theorem dX2_init_12 : decode cX2_init 12 = .ok (.aload_n 0, 1) := by decide +kernel
theorem dX2_init_13 : decode cX2_init 13 = .ok (.bipush 120, 2) := by decide +kernel
theorem dX2_init_15 : decode cX2_init 15 = .ok (.newarray .int, 2) := by decide +kernel
theorem dX2_init_17 : decode cX2_init 17 = .ok (.putfield 13, 3) := by decide +kernel
theorem dX2_init_20 : decode cX2_init 20 = .ok (.aload_n 0, 1) := by decide +kernel
theorem dX2_init_21 : decode cX2_init 21 = .ok (.sipush 128, 3) := by decide +kernel
theorem dX2_init_24 : decode cX2_init 24 = .ok (.newarray .int, 2) := by decide +kernel
theorem dX2_init_26 : decode cX2_init 26 = .ok (.putfield 16, 3) := by decide +kernel
theorem dX2_init_29 : decode cX2_init 29 = .ok (.aload_n 0, 1) := by decide +kernel
theorem dX2_init_30 : decode cX2_init 30 = .ok (.sipush 128, 3) := by decide +kernel
theorem dX2_init_33 : decode cX2_init 33 = .ok (.newarray .int, 2) := by decide +kernel
theorem dX2_init_35 : decode cX2_init 35 = .ok (.putfield 19, 3) := by decide +kernel
theorem dX2_init_38 : decode cX2_init 38 = .ok (.aload_n 0, 1) := by decide +kernel
theorem dX2_init_39 : decode cX2_init 39 = .ok (.sipush 128, 3) := by decide +kernel
theorem dX2_init_42 : decode cX2_init 42 = .ok (.newarray .int, 2) := by decide +kernel
theorem dX2_init_44 : decode cX2_init 44 = .ok (.putfield 22, 3) := by decide +kernel
theorem dX2_init_47 : decode cX2_init 47 = .ok (.aload_n 0, 1) := by decide +kernel
theorem dX2_init_48 : decode cX2_init 48 = .ok (.sipush 128, 3) := by decide +kernel
theorem dX2_init_51 : decode cX2_init 51 = .ok (.newarray .int, 2) := by decide +kernel
theorem dX2_init_53 : decode cX2_init 53 = .ok (.putfield 25, 3) := by decide +kernel
theorem dX2_init_56 : decode cX2_init 56 = .ok (.aload_n 0, 1) := by decide +kernel
theorem dX2_init_57 : decode cX2_init 57 = .ok (.sipush 128, 3) := by decide +kernel
theorem dX2_init_60 : decode cX2_init 60 = .ok (.newarray .int, 2) := by decide +kernel
theorem dX2_init_62 : decode cX2_init 62 = .ok (.putfield 28, 3) := by decide +kernel
theorem dX2_init_65 : decode cX2_init 65 = .ok (.return_, 1) := by decide +kernel
theorem dX2_take_0 : decode cX2_take 0 = .ok (.aload_n 0, 1) := by decide +kernel
theorem dX2_take_1 : decode cX2_take 1 = .ok (.getfield 31, 3) := by decide +kernel
theorem dX2_take_4 : decode cX2_take 4 = .ok (.bipush 120, 2) := by decide +kernel
theorem dX2_take_6 : decode cX2_take 6 = .ok (.if_icmp .lt 5, 3) := by decide +kernel
theorem dX2_take_9 : decode cX2_take 9 = .ok (.iconst 0, 1) := by decide +kernel
theorem dX2_take_10 : decode cX2_take 10 = .ok (.ireturn, 1) := by decide +kernel
theorem dX2_take_11 : decode cX2_take 11 = .ok (.aload_n 0, 1) := by decide +kernel
theorem dX2_take_12 : decode cX2_take 12 = .ok (.getfield 13, 3) := by decide +kernel
theorem dX2_take_15 : decode cX2_take 15 = .ok (.aload_n 0, 1) := by decide +kernel
theorem dX2_take_16 : decode cX2_take 16 = .ok (.getfield 31, 3) := by decide +kernel
theorem dX2_take_19 : decode cX2_take 19 = .ok (.iload_n 1, 1) := by decide +kernel
theorem dX2_take_20 : decode cX2_take 20 = .ok (.iastore, 1) := by decide +kernel
theorem dX2_take_21 : decode cX2_take 21 = .ok (.aload_n 0, 1) := by decide +kernel
theorem dX2_take_22 : decode cX2_take 22 = .ok (.dup, 1) := by decide +kernel
theorem dX2_take_23 : decode cX2_take 23 = .ok (.getfield 31, 3) := by decide +kernel
theorem dX2_take_26 : decode cX2_take 26 = .ok (.iconst 1, 1) := by decide +kernel
theorem dX2_take_27 : decode cX2_take 27 = .ok (.iadd, 1) := by decide +kernel
theorem dX2_take_28 : decode cX2_take 28 = .ok (.putfield 31, 3) := by decide +kernel
theorem dX2_take_31 : decode cX2_take 31 = .ok (.iconst 1, 1) := by decide +kernel
theorem dX2_take_32 : decode cX2_take 32 = .ok (.ireturn, 1) := by decide +kernel
theorem dX2_isTold_0 : decode cX2_isTold 0 = .ok (.aload_n 0, 1) := by decide +kernel
theorem dX2_isTold_1 : decode cX2_isTold 1 = .ok (.getfield 35, 3) := by decide +kernel
theorem dX2_isTold_4 : decode cX2_isTold 4 = .ok (.ifCond .le 7, 3) := by decide +kernel
theorem dX2_isTold_7 : decode cX2_isTold 7 = .ok (.iconst 1, 1) := by decide +kernel
theorem dX2_isTold_8 : decode cX2_isTold 8 = .ok (.goto 4, 3) := by decide +kernel
theorem dX2_isTold_11 : decode cX2_isTold 11 = .ok (.iconst 0, 1) := by decide +kernel
theorem dX2_isTold_12 : decode cX2_isTold 12 = .ok (.ireturn, 1) := by decide +kernel
set_option maxRecDepth 20000 in
theorem gd_wsX2_readLine : wsX2_readLine.all goodWord = true := by decide +kernel
set_option maxRecDepth 100000 in
theorem ggX2_read_X2_readLine : GoodIn wsX2_read wsX2_readLine := goodIn_r _ [9, 2, 1, 3, 10, 11, 12, 13, 8, 14, 15, 16, 17, 18, 19, 20, 21, 4, 22, 23, 24, 25, 26, 27, 28, 29, 30, 31, 32, 33, 34, 35, 36, 37, 38, 39, 40, 41, 42, 50, 51, 52, 53, 54, 55, 56, 57, 58, 59, 60, 61] rfl gd_wsX2_readLine
set_option maxRecDepth 100000 in
theorem gX2_read_X2_readLine : GoodIn wsX2_read (wsV RX2 47 RX2 yX2_readLine wsX2_readLine) := goodIn_app (goodIn_r _ [5, 6, 7, 8] rfl (by decide +kernel)) ggX2_read_X2_readLine
set_option maxRecDepth 20000 in
theorem gd_wsX2_letter : wsX2_letter.all goodWord = true := by decide +kernel
set_option maxRecDepth 100000 in
theorem ggX2_read_X2_letter : GoodIn wsX2_read wsX2_letter := goodIn_r _ [21, 1, 4, 22, 50, 51, 52, 53, 54, 55, 56, 57, 58, 59, 60, 61] rfl gd_wsX2_letter
set_option maxRecDepth 100000 in
theorem gX2_read_X2_letter : GoodIn wsX2_read (wsV RX2 50 RX2 yX2_letter wsX2_letter) := goodIn_app (goodIn_r _ [18, 19, 20, 8] rfl (by decide +kernel)) ggX2_read_X2_letter
set_option maxRecDepth 20000 in
theorem gd_wsX2_takeNewCodes : wsX2_takeNewCodes.all goodWord = true := by decide +kernel
set_option maxRecDepth 100000 in
theorem ggX2_read_X2_takeNewCodes : GoodIn wsX2_read wsX2_takeNewCodes := goodIn_r _ [46, 47, 48, 30, 10, 3, 49, 50, 51, 52, 53, 54, 55, 56, 57, 58, 59, 60, 61] rfl gd_wsX2_takeNewCodes
set_option maxRecDepth 100000 in
theorem gX2_read_X2_takeNewCodes : GoodIn wsX2_read (wsV RX2 54 RX2 yX2_takeNewCodes wsX2_takeNewCodes) := goodIn_app (goodIn_r _ [43, 44, 45, 8] rfl (by decide +kernel)) ggX2_read_X2_takeNewCodes
theorem dX2_read_0 : decode cX2_read 0 = .ok (.aload_n 0, 1) := by decide +kernel
theorem dX2_read_1 : decode cX2_read 1 = .ok (.iconst 0, 1) := by decide +kernel
theorem dX2_read_2 : decode cX2_read 2 = .ok (.putfield 38, 3) := by decide +kernel
theorem dX2_read_5 : decode cX2_read 5 = .ok (.aload_n 0, 1) := by decide +kernel
theorem dX2_read_6 : decode cX2_read 6 = .ok (.iconst (-1), 1) := by decide +kernel
theorem dX2_read_7 : decode cX2_read 7 = .ok (.putfield 41, 3) := by decide +kernel
theorem dX2_read_10 : decode cX2_read 10 = .ok (.aload_n 0, 1) := by decide +kernel
theorem dX2_read_11 : decode cX2_read 11 = .ok (.iconst 0, 1) := by decide +kernel
theorem dX2_read_12 : decode cX2_read 12 = .ok (.putfield 44, 3) := by decide +kernel
theorem dX2_read_15 : decode cX2_read 15 = .ok (.aload_n 0, 1) := by decide +kernel
theorem dX2_read_16 : decode cX2_read 16 = .ok (.invokevirtual 47, 3) := by decide +kernel
theorem dX2_read_19 : decode cX2_read 19 = .ok (.iconst 1, 1) := by decide +kernel
theorem dX2_read_20 : decode cX2_read 20 = .ok (.istore_n 1, 1) := by decide +kernel
theorem dX2_read_21 : decode cX2_read 21 = .ok (.iload_n 1, 1) := by decide +kernel
theorem dX2_read_22 : decode cX2_read 22 = .ok (.bipush 120, 2) := by decide +kernel
theorem dX2_read_24 : decode cX2_read 24 = .ok (.if_icmp .ge 39, 3) := by decide +kernel
theorem dX2_read_27 : decode cX2_read 27 = .ok (.aload_n 0, 1) := by decide +kernel
theorem dX2_read_28 : decode cX2_read 28 = .ok (.getfield 41, 3) := by decide +kernel
theorem dX2_read_31 : decode cX2_read 31 = .ok (.ifCond .ge 32, 3) := by decide +kernel
theorem dX2_read_34 : decode cX2_read 34 = .ok (.aload_n 0, 1) := by decide +kernel
theorem dX2_read_35 : decode cX2_read 35 = .ok (.invokevirtual 50, 3) := by decide +kernel
theorem dX2_read_38 : decode cX2_read 38 = .ok (.bipush 59, 2) := by decide +kernel
theorem dX2_read_40 : decode cX2_read 40 = .ok (.if_icmp .ne 23, 3) := by decide +kernel
theorem dX2_read_43 : decode cX2_read 43 = .ok (.aload_n 0, 1) := by decide +kernel
theorem dX2_read_44 : decode cX2_read 44 = .ok (.dup, 1) := by decide +kernel
theorem dX2_read_45 : decode cX2_read 45 = .ok (.getfield 38, 3) := by decide +kernel
theorem dX2_read_48 : decode cX2_read 48 = .ok (.iconst 1, 1) := by decide +kernel
theorem dX2_read_49 : decode cX2_read 49 = .ok (.iadd, 1) := by decide +kernel
theorem dX2_read_50 : decode cX2_read 50 = .ok (.putfield 38, 3) := by decide +kernel
theorem dX2_read_53 : decode cX2_read 53 = .ok (.aload_n 0, 1) := by decide +kernel
theorem dX2_read_54 : decode cX2_read 54 = .ok (.invokevirtual 47, 3) := by decide +kernel
theorem dX2_read_57 : decode cX2_read 57 = .ok (.iinc 1 1, 3) := by decide +kernel
theorem dX2_read_60 : decode cX2_read 60 = .ok (.goto (-39), 3) := by decide +kernel
theorem dX2_read_63 : decode cX2_read 63 = .ok (.aload_n 0, 1) := by decide +kernel
theorem dX2_read_64 : decode cX2_read 64 = .ok (.getfield 41, 3) := by decide +kernel
theorem dX2_read_67 : decode cX2_read 67 = .ok (.ifCond .ge 22, 3) := by decide +kernel
theorem dX2_read_70 : decode cX2_read 70 = .ok (.aload_n 0, 1) := by decide +kernel
theorem dX2_read_71 : decode cX2_read 71 = .ok (.getfield 38, 3) := by decide +kernel
theorem dX2_read_74 : decode cX2_read 74 = .ok (.aload_n 0, 1) := by decide +kernel
theorem dX2_read_75 : decode cX2_read 75 = .ok (.getfield 31, 3) := by decide +kernel
theorem dX2_read_78 : decode cX2_read 78 = .ok (.if_icmp .ge 11, 3) := by decide +kernel
theorem dX2_read_81 : decode cX2_read 81 = .ok (.aload_n 0, 1) := by decide +kernel
theorem dX2_read_82 : decode cX2_read 82 = .ok (.aload_n 0, 1) := by decide +kernel
theorem dX2_read_83 : decode cX2_read 83 = .ok (.getfield 38, 3) := by decide +kernel
theorem dX2_read_86 : decode cX2_read 86 = .ok (.putfield 41, 3) := by decide +kernel
theorem dX2_read_89 : decode cX2_read 89 = .ok (.aload_n 0, 1) := by decide +kernel
theorem dX2_read_90 : decode cX2_read 90 = .ok (.getfield 41, 3) := by decide +kernel
theorem dX2_read_93 : decode cX2_read 93 = .ok (.ifCond .ge 7, 3) := by decide +kernel
theorem dX2_read_96 : decode cX2_read 96 = .ok (.aload_n 0, 1) := by decide +kernel
theorem dX2_read_97 : decode cX2_read 97 = .ok (.invokevirtual 54, 3) := by decide +kernel
theorem dX2_read_100 : decode cX2_read 100 = .ok (.aload_n 0, 1) := by decide +kernel
theorem dX2_read_101 : decode cX2_read 101 = .ok (.iconst 0, 1) := by decide +kernel
theorem dX2_read_102 : decode cX2_read 102 = .ok (.putfield 31, 3) := by decide +kernel
theorem dX2_read_105 : decode cX2_read 105 = .ok (.aload_n 0, 1) := by decide +kernel
theorem dX2_read_106 : decode cX2_read 106 = .ok (.getfield 41, 3) := by decide +kernel
theorem dX2_read_109 : decode cX2_read 109 = .ok (.ireturn, 1) := by decide +kernel
theorem dX2_takeNewCodes_0 : decode cX2_takeNewCodes 0 = .ok (.aload_n 0, 1) := by decide +kernel
theorem dX2_takeNewCodes_1 : decode cX2_takeNewCodes 1 = .ok (.getfield 19, 3) := by decide +kernel
theorem dX2_takeNewCodes_4 : decode cX2_takeNewCodes 4 = .ok (.astore_n 1, 1) := by decide +kernel
theorem dX2_takeNewCodes_5 : decode cX2_takeNewCodes 5 = .ok (.aload_n 0, 1) := by decide +kernel
theorem dX2_takeNewCodes_6 : decode cX2_takeNewCodes 6 = .ok (.getfield 22, 3) := by decide +kernel
theorem dX2_takeNewCodes_9 : decode cX2_takeNewCodes 9 = .ok (.astore_n 2, 1) := by decide +kernel
theorem dX2_takeNewCodes_10 : decode cX2_takeNewCodes 10 = .ok (.aload_n 0, 1) := by decide +kernel
theorem dX2_takeNewCodes_11 : decode cX2_takeNewCodes 11 = .ok (.aload_n 0, 1) := by decide +kernel
theorem dX2_takeNewCodes_12 : decode cX2_takeNewCodes 12 = .ok (.getfield 25, 3) := by decide +kernel
theorem dX2_takeNewCodes_15 : decode cX2_takeNewCodes 15 = .ok (.putfield 19, 3) := by decide +kernel
theorem dX2_takeNewCodes_18 : decode cX2_takeNewCodes 18 = .ok (.aload_n 0, 1) := by decide +kernel
theorem dX2_takeNewCodes_19 : decode cX2_takeNewCodes 19 = .ok (.aload_n 0, 1) := by decide +kernel
theorem dX2_takeNewCodes_20 : decode cX2_takeNewCodes 20 = .ok (.getfield 28, 3) := by decide +kernel
theorem dX2_takeNewCodes_23 : decode cX2_takeNewCodes 23 = .ok (.putfield 22, 3) := by decide +kernel
theorem dX2_takeNewCodes_26 : decode cX2_takeNewCodes 26 = .ok (.aload_n 0, 1) := by decide +kernel
theorem dX2_takeNewCodes_27 : decode cX2_takeNewCodes 27 = .ok (.aload_n 0, 1) := by decide +kernel
theorem dX2_takeNewCodes_28 : decode cX2_takeNewCodes 28 = .ok (.getfield 44, 3) := by decide +kernel
theorem dX2_takeNewCodes_31 : decode cX2_takeNewCodes 31 = .ok (.putfield 35, 3) := by decide +kernel
theorem dX2_takeNewCodes_34 : decode cX2_takeNewCodes 34 = .ok (.aload_n 0, 1) := by decide +kernel
theorem dX2_takeNewCodes_35 : decode cX2_takeNewCodes 35 = .ok (.aload_n 1, 1) := by decide +kernel
theorem dX2_takeNewCodes_36 : decode cX2_takeNewCodes 36 = .ok (.putfield 25, 3) := by decide +kernel
theorem dX2_takeNewCodes_39 : decode cX2_takeNewCodes 39 = .ok (.aload_n 0, 1) := by decide +kernel
theorem dX2_takeNewCodes_40 : decode cX2_takeNewCodes 40 = .ok (.aload_n 2, 1) := by decide +kernel
theorem dX2_takeNewCodes_41 : decode cX2_takeNewCodes 41 = .ok (.putfield 28, 3) := by decide +kernel
theorem dX2_takeNewCodes_44 : decode cX2_takeNewCodes 44 = .ok (.return_, 1) := by decide +kernel
set_option maxRecDepth 20000 in
theorem gd_wsX2_readPart : wsX2_readPart.all goodWord = true := by decide +kernel
set_option maxRecDepth 100000 in
theorem ggX2_readLine_X2_readPart : GoodIn wsX2_readLine wsX2_readPart := goodIn_r _ [9, 1, 2, 10, 11, 12, 8, 5, 6, 7, 13, 14, 15, 16, 17, 18, 19, 20, 21, 22, 23, 24, 25, 3, 26, 4, 27, 28, 29, 30, 31, 32, 33, 34, 35, 36, 37, 38, 39, 40, 41, 42, 43, 44, 45, 46, 47, 48, 49, 50] rfl gd_wsX2_readPart
set_option maxRecDepth 100000 in
theorem gX2_readLine_X2_readPart : GoodIn wsX2_readLine (wsV RX2 57 RX2 yX2_readPart wsX2_readPart) := goodIn_app (goodIn_r _ [5, 6, 7, 8] rfl (by decide +kernel)) ggX2_readLine_X2_readPart
set_option maxRecDepth 100000 in
theorem ggX2_readLine_X2_letter : GoodIn wsX2_readLine wsX2_letter := goodIn_r _ [16, 2, 17, 18, 39, 40, 41, 42, 43, 44, 45, 46, 47, 48, 49, 50] rfl gd_wsX2_letter
set_option maxRecDepth 100000 in
theorem gX2_readLine_X2_letter : GoodIn wsX2_readLine (wsV RX2 50 RX2 yX2_letter wsX2_letter) := goodIn_app (goodIn_r _ [13, 14, 15, 8] rfl (by decide +kernel)) ggX2_readLine_X2_letter
set_option maxRecDepth 20000 in
theorem gd_wsX2_emit : wsX2_emit.all goodWord = true := by decide +kernel
set_option maxRecDepth 100000 in
theorem ggX2_readLine_X2_emit : GoodIn wsX2_readLine wsX2_emit := goodIn_r _ [25, 3, 26, 4, 39, 40, 41, 42, 43, 44, 45, 46, 47, 48, 49, 50] rfl gd_wsX2_emit
set_option maxRecDepth 100000 in
theorem gX2_readLine_X2_emit : GoodIn wsX2_readLine (wsV RX2 61 RX2 yX2_emit wsX2_emit) := goodIn_app (goodIn_r _ [22, 23, 24, 8] rfl (by decide +kernel)) ggX2_readLine_X2_emit
theorem dX2_readLine_0 : decode cX2_readLine 0 = .ok (.aload_n 0, 1) := by decide +kernel
theorem dX2_readLine_1 : decode cX2_readLine 1 = .ok (.iconst 0, 1) := by decide +kernel
theorem dX2_readLine_2 : decode cX2_readLine 2 = .ok (.iconst 0, 1) := by decide +kernel
theorem dX2_readLine_3 : decode cX2_readLine 3 = .ok (.invokevirtual 57, 3) := by decide +kernel
theorem dX2_readLine_6 : decode cX2_readLine 6 = .ok (.iconst (-1), 1) := by decide +kernel
theorem dX2_readLine_7 : decode cX2_readLine 7 = .ok (.istore_n 1, 1) := by decide +kernel
theorem dX2_readLine_8 : decode cX2_readLine 8 = .ok (.aload_n 0, 1) := by decide +kernel
theorem dX2_readLine_9 : decode cX2_readLine 9 = .ok (.getfield 41, 3) := by decide +kernel
theorem dX2_readLine_12 : decode cX2_readLine 12 = .ok (.ifCond .ge 39, 3) := by decide +kernel
theorem dX2_readLine_15 : decode cX2_readLine 15 = .ok (.aload_n 0, 1) := by decide +kernel
theorem dX2_readLine_16 : decode cX2_readLine 16 = .ok (.invokevirtual 50, 3) := by decide +kernel
theorem dX2_readLine_19 : decode cX2_readLine 19 = .ok (.bipush 63, 2) := by decide +kernel
theorem dX2_readLine_21 : decode cX2_readLine 21 = .ok (.if_icmp .ne 30, 3) := by decide +kernel
theorem dX2_readLine_24 : decode cX2_readLine 24 = .ok (.aload_n 0, 1) := by decide +kernel
theorem dX2_readLine_25 : decode cX2_readLine 25 = .ok (.dup, 1) := by decide +kernel
theorem dX2_readLine_26 : decode cX2_readLine 26 = .ok (.getfield 38, 3) := by decide +kernel
theorem dX2_readLine_29 : decode cX2_readLine 29 = .ok (.iconst 1, 1) := by decide +kernel
theorem dX2_readLine_30 : decode cX2_readLine 30 = .ok (.iadd, 1) := by decide +kernel
theorem dX2_readLine_31 : decode cX2_readLine 31 = .ok (.putfield 38, 3) := by decide +kernel
theorem dX2_readLine_34 : decode cX2_readLine 34 = .ok (.aload_n 0, 1) := by decide +kernel
theorem dX2_readLine_35 : decode cX2_readLine 35 = .ok (.getfield 44, 3) := by decide +kernel
theorem dX2_readLine_38 : decode cX2_readLine 38 = .ok (.istore_n 1, 1) := by decide +kernel
theorem dX2_readLine_39 : decode cX2_readLine 39 = .ok (.aload_n 0, 1) := by decide +kernel
theorem dX2_readLine_40 : decode cX2_readLine 40 = .ok (.iconst 3, 1) := by decide +kernel
theorem dX2_readLine_41 : decode cX2_readLine 41 = .ok (.iconst 0, 1) := by decide +kernel
theorem dX2_readLine_42 : decode cX2_readLine 42 = .ok (.invokevirtual 61, 3) := by decide +kernel
theorem dX2_readLine_45 : decode cX2_readLine 45 = .ok (.aload_n 0, 1) := by decide +kernel
theorem dX2_readLine_46 : decode cX2_readLine 46 = .ok (.iconst 0, 1) := by decide +kernel
theorem dX2_readLine_47 : decode cX2_readLine 47 = .ok (.iconst 0, 1) := by decide +kernel
theorem dX2_readLine_48 : decode cX2_readLine 48 = .ok (.invokevirtual 57, 3) := by decide +kernel
theorem dX2_readLine_51 : decode cX2_readLine 51 = .ok (.aload_n 0, 1) := by decide +kernel
theorem dX2_readLine_52 : decode cX2_readLine 52 = .ok (.iconst 4, 1) := by decide +kernel
theorem dX2_readLine_53 : decode cX2_readLine 53 = .ok (.iconst 0, 1) := by decide +kernel
theorem dX2_readLine_54 : decode cX2_readLine 54 = .ok (.invokevirtual 61, 3) := by decide +kernel
theorem dX2_readLine_57 : decode cX2_readLine 57 = .ok (.iload_n 1, 1) := by decide +kernel
theorem dX2_readLine_58 : decode cX2_readLine 58 = .ok (.ifCond .lt 20, 3) := by decide +kernel
theorem dX2_readLine_61 : decode cX2_readLine 61 = .ok (.iload_n 1, 1) := by decide +kernel
theorem dX2_readLine_62 : decode cX2_readLine 62 = .ok (.sipush 128, 3) := by decide +kernel
theorem dX2_readLine_65 : decode cX2_readLine 65 = .ok (.if_icmp .ge 13, 3) := by decide +kernel
theorem dX2_readLine_68 : decode cX2_readLine 68 = .ok (.aload_n 0, 1) := by decide +kernel
theorem dX2_readLine_69 : decode cX2_readLine 69 = .ok (.getfield 28, 3) := by decide +kernel
theorem dX2_readLine_72 : decode cX2_readLine 72 = .ok (.iload_n 1, 1) := by decide +kernel
theorem dX2_readLine_73 : decode cX2_readLine 73 = .ok (.aload_n 0, 1) := by decide +kernel
theorem dX2_readLine_74 : decode cX2_readLine 74 = .ok (.getfield 44, 3) := by decide +kernel
theorem dX2_readLine_77 : decode cX2_readLine 77 = .ok (.iastore, 1) := by decide +kernel
theorem dX2_readLine_78 : decode cX2_readLine 78 = .ok (.return_, 1) := by decide +kernel
set_option maxRecDepth 20000 in
theorem gd_wsX2_readOne : wsX2_readOne.all goodWord = true := by decide +kernel
set_option maxRecDepth 100000 in
theorem ggX2_readPart_X2_readOne : GoodIn wsX2_readPart wsX2_readOne := goodIn_r _ [26, 2, 1, 10, 11, 12, 6, 13, 14, 15, 27, 28, 29, 30, 19, 20, 21, 22, 23, 24, 25, 31, 32, 33, 7, 8, 9, 34, 35, 36, 37, 3, 4, 5, 0, 16, 17, 18, 38, 39, 40, 41, 42, 43, 44, 45, 46, 47, 48, 49] rfl gd_wsX2_readOne
set_option maxRecDepth 100000 in
theorem gX2_readPart_X2_readOne : GoodIn wsX2_readPart (wsV RX2 64 RX2 yX2_readOne wsX2_readOne) := goodIn_app (goodIn_r _ [3, 4, 5, 6] rfl (by decide +kernel)) ggX2_readPart_X2_readOne
set_option maxRecDepth 100000 in
theorem ggX2_readPart_X2_readPart : GoodIn wsX2_readPart wsX2_readPart := goodIn_r _ [0, 1, 2, 3, 4, 5, 6, 7, 8, 9, 10, 11, 12, 13, 14, 15, 16, 17, 18, 19, 20, 21, 22, 23, 24, 25, 26, 27, 28, 29, 30, 31, 32, 33, 34, 35, 36, 37, 38, 39, 40, 41, 42, 43, 44, 45, 46, 47, 48, 49] rfl gd_wsX2_readPart
set_option maxRecDepth 100000 in
theorem gX2_readPart_X2_readPart : GoodIn wsX2_readPart (wsV RX2 57 RX2 yX2_readPart wsX2_readPart) := goodIn_app (goodIn_r _ [7, 8, 9, 6] rfl (by decide +kernel)) ggX2_readPart_X2_readPart
set_option maxRecDepth 100000 in
theorem ggX2_readPart_X2_letter : GoodIn wsX2_readPart wsX2_letter := goodIn_r _ [13, 2, 14, 15, 38, 39, 40, 41, 42, 43, 44, 45, 46, 47, 48, 49] rfl gd_wsX2_letter
set_option maxRecDepth 100000 in
theorem gX2_readPart_X2_letter : GoodIn wsX2_readPart (wsV RX2 50 RX2 yX2_letter wsX2_letter) := goodIn_app (goodIn_r _ [10, 11, 12, 6] rfl (by decide +kernel)) ggX2_readPart_X2_letter
set_option maxRecDepth 20000 in
theorem gd_wsX2_levelOf : wsX2_levelOf.all goodWord = true := by decide +kernel
set_option maxRecDepth 100000 in
theorem ggX2_readPart_X2_levelOf : GoodIn wsX2_readPart wsX2_levelOf := goodIn_r _ [18] rfl gd_wsX2_levelOf
set_option maxRecDepth 100000 in
theorem gX2_readPart_X2_levelOf : GoodIn wsX2_readPart (va_wsS RX2 68 yX2_levelOf wsX2_levelOf) := goodIn_app (goodIn_r _ [16, 17, 6] rfl (by decide +kernel)) ggX2_readPart_X2_levelOf
set_option maxRecDepth 100000 in
theorem ggX2_readPart_X2_emit : GoodIn wsX2_readPart wsX2_emit := goodIn_r _ [22, 23, 24, 25, 38, 39, 40, 41, 42, 43, 44, 45, 46, 47, 48, 49] rfl gd_wsX2_emit
set_option maxRecDepth 100000 in
theorem gX2_readPart_X2_emit : GoodIn wsX2_readPart (wsV RX2 61 RX2 yX2_emit wsX2_emit) := goodIn_app (goodIn_r _ [19, 20, 21, 6] rfl (by decide +kernel)) ggX2_readPart_X2_emit
theorem dX2_readPart_0 : decode cX2_readPart 0 = .ok (.iload_n 1, 1) := by decide +kernel
theorem dX2_readPart_1 : decode cX2_readPart 1 = .ok (.iconst 5, 1) := by decide +kernel
theorem dX2_readPart_2 : decode cX2_readPart 2 = .ok (.if_icmp .lt 9, 3) := by decide +kernel
theorem dX2_readPart_5 : decode cX2_readPart 5 = .ok (.aload_n 0, 1) := by decide +kernel
theorem dX2_readPart_6 : decode cX2_readPart 6 = .ok (.iload_n 2, 1) := by decide +kernel
theorem dX2_readPart_7 : decode cX2_readPart 7 = .ok (.invokevirtual 64, 3) := by decide +kernel
theorem dX2_readPart_10 : decode cX2_readPart 10 = .ok (.return_, 1) := by decide +kernel
theorem dX2_readPart_11 : decode cX2_readPart 11 = .ok (.aload_n 0, 1) := by decide +kernel
theorem dX2_readPart_12 : decode cX2_readPart 12 = .ok (.iload_n 1, 1) := by decide +kernel
theorem dX2_readPart_13 : decode cX2_readPart 13 = .ok (.iconst 1, 1) := by decide +kernel
theorem dX2_readPart_14 : decode cX2_readPart 14 = .ok (.iadd, 1) := by decide +kernel
theorem dX2_readPart_15 : decode cX2_readPart 15 = .ok (.iload_n 2, 1) := by decide +kernel
theorem dX2_readPart_16 : decode cX2_readPart 16 = .ok (.invokevirtual 57, 3) := by decide +kernel
theorem dX2_readPart_19 : decode cX2_readPart 19 = .ok (.iconst 0, 1) := by decide +kernel
theorem dX2_readPart_20 : decode cX2_readPart 20 = .ok (.istore_n 3, 1) := by decide +kernel
theorem dX2_readPart_21 : decode cX2_readPart 21 = .ok (.iload_n 3, 1) := by decide +kernel
theorem dX2_readPart_22 : decode cX2_readPart 22 = .ok (.bipush 120, 2) := by decide +kernel
theorem dX2_readPart_24 : decode cX2_readPart 24 = .ok (.if_icmp .ge 68, 3) := by decide +kernel
theorem dX2_readPart_27 : decode cX2_readPart 27 = .ok (.aload_n 0, 1) := by decide +kernel
theorem dX2_readPart_28 : decode cX2_readPart 28 = .ok (.getfield 41, 3) := by decide +kernel
theorem dX2_readPart_31 : decode cX2_readPart 31 = .ok (.ifCond .ge 61, 3) := by decide +kernel
theorem dX2_readPart_34 : decode cX2_readPart 34 = .ok (.aload_n 0, 1) := by decide +kernel
theorem dX2_readPart_35 : decode cX2_readPart 35 = .ok (.invokevirtual 50, 3) := by decide +kernel
theorem dX2_readPart_38 : decode cX2_readPart 38 = .ok (.invokestatic 68, 3) := by decide +kernel
theorem dX2_readPart_41 : decode cX2_readPart 41 = .ok (.iload_n 1, 1) := by decide +kernel
theorem dX2_readPart_42 : decode cX2_readPart 42 = .ok (.if_icmp .ne 50, 3) := by decide +kernel
theorem dX2_readPart_45 : decode cX2_readPart 45 = .ok (.iload_n 1, 1) := by decide +kernel
theorem dX2_readPart_46 : decode cX2_readPart 46 = .ok (.iconst 2, 1) := by decide +kernel
theorem dX2_readPart_47 : decode cX2_readPart 47 = .ok (.if_icmp .ne 8, 3) := by decide +kernel
theorem dX2_readPart_50 : decode cX2_readPart 50 = .ok (.iload_n 3, 1) := by decide +kernel
theorem dX2_readPart_51 : decode cX2_readPart 51 = .ok (.ifCond .le 4, 3) := by decide +kernel
theorem dX2_readPart_54 : decode cX2_readPart 54 = .ok (.return_, 1) := by decide +kernel
theorem dX2_readPart_55 : decode cX2_readPart 55 = .ok (.aload_n 0, 1) := by decide +kernel
theorem dX2_readPart_56 : decode cX2_readPart 56 = .ok (.invokevirtual 50, 3) := by decide +kernel
theorem dX2_readPart_59 : decode cX2_readPart 59 = .ok (.istore 4, 2) := by decide +kernel
theorem dX2_readPart_61 : decode cX2_readPart 61 = .ok (.aload_n 0, 1) := by decide +kernel
theorem dX2_readPart_62 : decode cX2_readPart 62 = .ok (.dup, 1) := by decide +kernel
theorem dX2_readPart_63 : decode cX2_readPart 63 = .ok (.getfield 38, 3) := by decide +kernel
theorem dX2_readPart_66 : decode cX2_readPart 66 = .ok (.iconst 1, 1) := by decide +kernel
theorem dX2_readPart_67 : decode cX2_readPart 67 = .ok (.iadd, 1) := by decide +kernel
theorem dX2_readPart_68 : decode cX2_readPart 68 = .ok (.putfield 38, 3) := by decide +kernel
theorem dX2_readPart_71 : decode cX2_readPart 71 = .ok (.aload_n 0, 1) := by decide +kernel
theorem dX2_readPart_72 : decode cX2_readPart 72 = .ok (.iload_n 1, 1) := by decide +kernel
theorem dX2_readPart_73 : decode cX2_readPart 73 = .ok (.iconst 1, 1) := by decide +kernel
theorem dX2_readPart_74 : decode cX2_readPart 74 = .ok (.iadd, 1) := by decide +kernel
theorem dX2_readPart_75 : decode cX2_readPart 75 = .ok (.iload_n 2, 1) := by decide +kernel
theorem dX2_readPart_76 : decode cX2_readPart 76 = .ok (.invokevirtual 57, 3) := by decide +kernel
theorem dX2_readPart_79 : decode cX2_readPart 79 = .ok (.aload_n 0, 1) := by decide +kernel
theorem dX2_readPart_80 : decode cX2_readPart 80 = .ok (.iload 4, 2) := by decide +kernel
theorem dX2_readPart_82 : decode cX2_readPart 82 = .ok (.iconst 0, 1) := by decide +kernel
theorem dX2_readPart_83 : decode cX2_readPart 83 = .ok (.invokevirtual 61, 3) := by decide +kernel
theorem dX2_readPart_86 : decode cX2_readPart 86 = .ok (.iinc 3 1, 3) := by decide +kernel
theorem dX2_readPart_89 : decode cX2_readPart 89 = .ok (.goto (-68), 3) := by decide +kernel
theorem dX2_readPart_92 : decode cX2_readPart 92 = .ok (.return_, 1) := by decide +kernel
set_option maxRecDepth 100000 in
theorem ggX2_readOne_X2_letter : GoodIn wsX2_readOne wsX2_letter := goodIn_r _ [7, 1, 8, 9, 38, 39, 40, 41, 42, 43, 44, 45, 46, 47, 48, 49] rfl gd_wsX2_letter
set_option maxRecDepth 100000 in
theorem gX2_readOne_X2_letter : GoodIn wsX2_readOne (wsV RX2 50 RX2 yX2_letter wsX2_letter) := goodIn_app (goodIn_r _ [3, 4, 5, 6] rfl (by decide +kernel)) ggX2_readOne_X2_letter
set_option maxRecDepth 20000 in
theorem gd_wsX2_readNumber : wsX2_readNumber.all goodWord = true := by decide +kernel
set_option maxRecDepth 100000 in
theorem ggX2_readOne_X2_readNumber : GoodIn wsX2_readOne wsX2_readNumber := goodIn_r _ [13, 1, 3, 4, 5, 6, 7, 8, 9, 14, 15, 16, 17, 18, 19, 20, 38, 39, 40, 41, 42, 43, 44, 45, 46, 47, 48, 49] rfl gd_wsX2_readNumber
set_option maxRecDepth 100000 in
theorem gX2_readOne_X2_readNumber : GoodIn wsX2_readOne (wsV RX2 72 RX2 yX2_readNumber wsX2_readNumber) := goodIn_app (goodIn_r _ [10, 11, 12, 6] rfl (by decide +kernel)) ggX2_readOne_X2_readNumber
set_option maxRecDepth 20000 in
theorem gd_wsX2_nameOf : wsX2_nameOf.all goodWord = true := by decide +kernel
set_option maxRecDepth 100000 in
theorem ggX2_readOne_X2_nameOf : GoodIn wsX2_readOne wsX2_nameOf := goodIn_r _ [23] rfl gd_wsX2_nameOf
set_option maxRecDepth 100000 in
theorem gX2_readOne_X2_nameOf : GoodIn wsX2_readOne (va_wsS RX2 75 yX2_nameOf wsX2_nameOf) := goodIn_app (goodIn_r _ [21, 22, 6] rfl (by decide +kernel)) ggX2_readOne_X2_nameOf
set_option maxRecDepth 100000 in
theorem ggX2_readOne_X2_emit : GoodIn wsX2_readOne wsX2_emit := goodIn_r _ [17, 18, 19, 20, 38, 39, 40, 41, 42, 43, 44, 45, 46, 47, 48, 49] rfl gd_wsX2_emit
set_option maxRecDepth 100000 in
theorem gX2_readOne_X2_emit : GoodIn wsX2_readOne (wsV RX2 61 RX2 yX2_emit wsX2_emit) := goodIn_app (goodIn_r _ [14, 15, 16, 6] rfl (by decide +kernel)) ggX2_readOne_X2_emit
set_option maxRecDepth 100000 in
theorem ggX2_readOne_X2_readPart : GoodIn wsX2_readOne wsX2_readPart := goodIn_r _ [34, 2, 1, 31, 32, 33, 6, 24, 25, 26, 3, 4, 5, 7, 8, 9, 35, 36, 37, 14, 15, 16, 17, 18, 19, 20, 0, 10, 11, 12, 13, 21, 22, 23, 27, 28, 29, 30, 38, 39, 40, 41, 42, 43, 44, 45, 46, 47, 48, 49] rfl gd_wsX2_readPart
set_option maxRecDepth 100000 in
theorem gX2_readOne_X2_readPart : GoodIn wsX2_readOne (wsV RX2 57 RX2 yX2_readPart wsX2_readPart) := goodIn_app (goodIn_r _ [24, 25, 26, 6] rfl (by decide +kernel)) ggX2_readOne_X2_readPart
set_option maxRecDepth 20000 in
theorem gd_wsX2_close : wsX2_close.all goodWord = true := by decide +kernel
set_option maxRecDepth 100000 in
theorem ggX2_readOne_X2_close : GoodIn wsX2_readOne wsX2_close := goodIn_r _ [30, 2, 1, 3, 4, 5, 6, 7, 8, 9, 38, 39, 40, 41, 42, 43, 44, 45, 46, 47, 48, 49] rfl gd_wsX2_close
set_option maxRecDepth 100000 in
theorem gX2_readOne_X2_close : GoodIn wsX2_readOne (wsV RX2 78 RX2 yX2_close wsX2_close) := goodIn_app (goodIn_r _ [27, 28, 29, 6] rfl (by decide +kernel)) ggX2_readOne_X2_close
set_option maxRecDepth 100000 in
theorem ggX2_readOne_X2_readOne : GoodIn wsX2_readOne wsX2_readOne := goodIn_r _ [0, 1, 2, 3, 4, 5, 6, 7, 8, 9, 10, 11, 12, 13, 14, 15, 16, 17, 18, 19, 20, 21, 22, 23, 24, 25, 26, 27, 28, 29, 30, 31, 32, 33, 34, 35, 36, 37, 38, 39, 40, 41, 42, 43, 44, 45, 46, 47, 48, 49] rfl gd_wsX2_readOne
set_option maxRecDepth 100000 in
theorem gX2_readOne_X2_readOne : GoodIn wsX2_readOne (wsV RX2 64 RX2 yX2_readOne wsX2_readOne) := goodIn_app (goodIn_r _ [31, 32, 33, 6] rfl (by decide +kernel)) ggX2_readOne_X2_readOne
theorem dX2_readOne_0 : decode cX2_readOne 0 = .ok (.aload_n 0, 1) := by decide +kernel
theorem dX2_readOne_1 : decode cX2_readOne 1 = .ok (.invokevirtual 50, 3) := by decide +kernel
theorem dX2_readOne_4 : decode cX2_readOne 4 = .ok (.istore_n 2, 1) := by decide +kernel
theorem dX2_readOne_5 : decode cX2_readOne 5 = .ok (.iload_n 2, 1) := by decide +kernel
theorem dX2_readOne_6 : decode cX2_readOne 6 = .ok (.bipush 48, 2) := by decide +kernel
theorem dX2_readOne_8 : decode cX2_readOne 8 = .ok (.if_icmp .lt 16, 3) := by decide +kernel
theorem dX2_readOne_11 : decode cX2_readOne 11 = .ok (.iload_n 2, 1) := by decide +kernel
theorem dX2_readOne_12 : decode cX2_readOne 12 = .ok (.bipush 57, 2) := by decide +kernel
theorem dX2_readOne_14 : decode cX2_readOne 14 = .ok (.if_icmp .gt 10, 3) := by decide +kernel
theorem dX2_readOne_17 : decode cX2_readOne 17 = .ok (.aload_n 0, 1) := by decide +kernel
theorem dX2_readOne_18 : decode cX2_readOne 18 = .ok (.invokevirtual 72, 3) := by decide +kernel
theorem dX2_readOne_21 : decode cX2_readOne 21 = .ok (.goto 132, 3) := by decide +kernel
theorem dX2_readOne_24 : decode cX2_readOne 24 = .ok (.iload_n 2, 1) := by decide +kernel
theorem dX2_readOne_25 : decode cX2_readOne 25 = .ok (.invokestatic 75, 3) := by decide +kernel
theorem dX2_readOne_28 : decode cX2_readOne 28 = .ok (.ifCond .lt 25, 3) := by decide +kernel
theorem dX2_readOne_31 : decode cX2_readOne 31 = .ok (.aload_n 0, 1) := by decide +kernel
theorem dX2_readOne_32 : decode cX2_readOne 32 = .ok (.dup, 1) := by decide +kernel
theorem dX2_readOne_33 : decode cX2_readOne 33 = .ok (.getfield 38, 3) := by decide +kernel
theorem dX2_readOne_36 : decode cX2_readOne 36 = .ok (.iconst 1, 1) := by decide +kernel
theorem dX2_readOne_37 : decode cX2_readOne 37 = .ok (.iadd, 1) := by decide +kernel
theorem dX2_readOne_38 : decode cX2_readOne 38 = .ok (.putfield 38, 3) := by decide +kernel
theorem dX2_readOne_41 : decode cX2_readOne 41 = .ok (.aload_n 0, 1) := by decide +kernel
theorem dX2_readOne_42 : decode cX2_readOne 42 = .ok (.iconst 2, 1) := by decide +kernel
theorem dX2_readOne_43 : decode cX2_readOne 43 = .ok (.iload_n 2, 1) := by decide +kernel
theorem dX2_readOne_44 : decode cX2_readOne 44 = .ok (.invokestatic 75, 3) := by decide +kernel
theorem dX2_readOne_47 : decode cX2_readOne 47 = .ok (.invokevirtual 61, 3) := by decide +kernel
theorem dX2_readOne_50 : decode cX2_readOne 50 = .ok (.goto 103, 3) := by decide +kernel
theorem dX2_readOne_53 : decode cX2_readOne 53 = .ok (.iload_n 1, 1) := by decide +kernel
theorem dX2_readOne_54 : decode cX2_readOne 54 = .ok (.bipush 6, 2) := by decide +kernel
theorem dX2_readOne_56 : decode cX2_readOne 56 = .ok (.if_icmp .ge 21, 3) := by decide +kernel
theorem dX2_readOne_59 : decode cX2_readOne 59 = .ok (.iload_n 2, 1) := by decide +kernel
theorem dX2_readOne_60 : decode cX2_readOne 60 = .ok (.bipush 40, 2) := by decide +kernel
theorem dX2_readOne_62 : decode cX2_readOne 62 = .ok (.if_icmp .eq 26, 3) := by decide +kernel
theorem dX2_readOne_65 : decode cX2_readOne 65 = .ok (.iload_n 2, 1) := by decide +kernel
theorem dX2_readOne_66 : decode cX2_readOne 66 = .ok (.bipush 33, 2) := by decide +kernel
theorem dX2_readOne_68 : decode cX2_readOne 68 = .ok (.if_icmp .eq 20, 3) := by decide +kernel
theorem dX2_readOne_71 : decode cX2_readOne 71 = .ok (.iload_n 2, 1) := by decide +kernel
theorem dX2_readOne_72 : decode cX2_readOne 72 = .ok (.bipush 45, 2) := by decide +kernel
theorem dX2_readOne_74 : decode cX2_readOne 74 = .ok (.if_icmp .eq 14, 3) := by decide +kernel
theorem dX2_readOne_77 : decode cX2_readOne 77 = .ok (.aload_n 0, 1) := by decide +kernel
theorem dX2_readOne_78 : decode cX2_readOne 78 = .ok (.aload_n 0, 1) := by decide +kernel
theorem dX2_readOne_79 : decode cX2_readOne 79 = .ok (.getfield 38, 3) := by decide +kernel
theorem dX2_readOne_82 : decode cX2_readOne 82 = .ok (.putfield 41, 3) := by decide +kernel
theorem dX2_readOne_85 : decode cX2_readOne 85 = .ok (.goto 68, 3) := by decide +kernel
theorem dX2_readOne_88 : decode cX2_readOne 88 = .ok (.iload_n 2, 1) := by decide +kernel
theorem dX2_readOne_89 : decode cX2_readOne 89 = .ok (.bipush 40, 2) := by decide +kernel
theorem dX2_readOne_91 : decode cX2_readOne 91 = .ok (.if_icmp .ne 28, 3) := by decide +kernel
theorem dX2_readOne_94 : decode cX2_readOne 94 = .ok (.aload_n 0, 1) := by decide +kernel
theorem dX2_readOne_95 : decode cX2_readOne 95 = .ok (.dup, 1) := by decide +kernel
theorem dX2_readOne_96 : decode cX2_readOne 96 = .ok (.getfield 38, 3) := by decide +kernel
theorem dX2_readOne_99 : decode cX2_readOne 99 = .ok (.iconst 1, 1) := by decide +kernel
theorem dX2_readOne_100 : decode cX2_readOne 100 = .ok (.iadd, 1) := by decide +kernel
theorem dX2_readOne_101 : decode cX2_readOne 101 = .ok (.putfield 38, 3) := by decide +kernel
theorem dX2_readOne_104 : decode cX2_readOne 104 = .ok (.aload_n 0, 1) := by decide +kernel
theorem dX2_readOne_105 : decode cX2_readOne 105 = .ok (.iconst 0, 1) := by decide +kernel
theorem dX2_readOne_106 : decode cX2_readOne 106 = .ok (.iload_n 1, 1) := by decide +kernel
theorem dX2_readOne_107 : decode cX2_readOne 107 = .ok (.iconst 1, 1) := by decide +kernel
theorem dX2_readOne_108 : decode cX2_readOne 108 = .ok (.iadd, 1) := by decide +kernel
theorem dX2_readOne_109 : decode cX2_readOne 109 = .ok (.invokevirtual 57, 3) := by decide +kernel
theorem dX2_readOne_112 : decode cX2_readOne 112 = .ok (.aload_n 0, 1) := by decide +kernel
theorem dX2_readOne_113 : decode cX2_readOne 113 = .ok (.invokevirtual 78, 3) := by decide +kernel
theorem dX2_readOne_116 : decode cX2_readOne 116 = .ok (.goto 37, 3) := by decide +kernel
theorem dX2_readOne_119 : decode cX2_readOne 119 = .ok (.aload_n 0, 1) := by decide +kernel
theorem dX2_readOne_120 : decode cX2_readOne 120 = .ok (.dup, 1) := by decide +kernel
theorem dX2_readOne_121 : decode cX2_readOne 121 = .ok (.getfield 38, 3) := by decide +kernel
theorem dX2_readOne_124 : decode cX2_readOne 124 = .ok (.iconst 1, 1) := by decide +kernel
theorem dX2_readOne_125 : decode cX2_readOne 125 = .ok (.iadd, 1) := by decide +kernel
theorem dX2_readOne_126 : decode cX2_readOne 126 = .ok (.putfield 38, 3) := by decide +kernel
theorem dX2_readOne_129 : decode cX2_readOne 129 = .ok (.aload_n 0, 1) := by decide +kernel
theorem dX2_readOne_130 : decode cX2_readOne 130 = .ok (.iload_n 1, 1) := by decide +kernel
theorem dX2_readOne_131 : decode cX2_readOne 131 = .ok (.iconst 1, 1) := by decide +kernel
theorem dX2_readOne_132 : decode cX2_readOne 132 = .ok (.iadd, 1) := by decide +kernel
theorem dX2_readOne_133 : decode cX2_readOne 133 = .ok (.invokevirtual 64, 3) := by decide +kernel
theorem dX2_readOne_136 : decode cX2_readOne 136 = .ok (.aload_n 0, 1) := by decide +kernel
theorem dX2_readOne_137 : decode cX2_readOne 137 = .ok (.iload_n 2, 1) := by decide +kernel
theorem dX2_readOne_138 : decode cX2_readOne 138 = .ok (.bipush 33, 2) := by decide +kernel
theorem dX2_readOne_140 : decode cX2_readOne 140 = .ok (.if_icmp .ne 8, 3) := by decide +kernel
theorem dX2_readOne_143 : decode cX2_readOne 143 = .ok (.bipush 6, 2) := by decide +kernel
theorem dX2_readOne_145 : decode cX2_readOne 145 = .ok (.goto 4, 3) := by decide +kernel
theorem dX2_readOne_148 : decode cX2_readOne 148 = .ok (.iconst 5, 1) := by decide +kernel
theorem dX2_readOne_149 : decode cX2_readOne 149 = .ok (.iconst 0, 1) := by decide +kernel
theorem dX2_readOne_150 : decode cX2_readOne 150 = .ok (.invokevirtual 61, 3) := by decide +kernel
theorem dX2_readOne_153 : decode cX2_readOne 153 = .ok (.return_, 1) := by decide +kernel
set_option maxRecDepth 100000 in
theorem ggX2_close_X2_letter : GoodIn wsX2_close wsX2_letter := goodIn_r _ [7, 2, 8, 9, 10, 11, 12, 13, 14, 15, 16, 17, 18, 19, 20, 21] rfl gd_wsX2_letter
set_option maxRecDepth 100000 in
theorem gX2_close_X2_letter : GoodIn wsX2_close (wsV RX2 50 RX2 yX2_letter wsX2_letter) := goodIn_app (goodIn_r _ [3, 4, 5, 6] rfl (by decide +kernel)) ggX2_close_X2_letter
theorem dX2_close_0 : decode cX2_close 0 = .ok (.aload_n 0, 1) := by decide +kernel
theorem dX2_close_1 : decode cX2_close 1 = .ok (.getfield 41, 3) := by decide +kernel
theorem dX2_close_4 : decode cX2_close 4 = .ok (.ifCond .lt 4, 3) := by decide +kernel
theorem dX2_close_7 : decode cX2_close 7 = .ok (.return_, 1) := by decide +kernel
theorem dX2_close_8 : decode cX2_close 8 = .ok (.aload_n 0, 1) := by decide +kernel
theorem dX2_close_9 : decode cX2_close 9 = .ok (.invokevirtual 50, 3) := by decide +kernel
theorem dX2_close_12 : decode cX2_close 12 = .ok (.bipush 41, 2) := by decide +kernel
theorem dX2_close_14 : decode cX2_close 14 = .ok (.if_icmp .ne 16, 3) := by decide +kernel
theorem dX2_close_17 : decode cX2_close 17 = .ok (.aload_n 0, 1) := by decide +kernel
theorem dX2_close_18 : decode cX2_close 18 = .ok (.dup, 1) := by decide +kernel
theorem dX2_close_19 : decode cX2_close 19 = .ok (.getfield 38, 3) := by decide +kernel
theorem dX2_close_22 : decode cX2_close 22 = .ok (.iconst 1, 1) := by decide +kernel
theorem dX2_close_23 : decode cX2_close 23 = .ok (.iadd, 1) := by decide +kernel
theorem dX2_close_24 : decode cX2_close 24 = .ok (.putfield 38, 3) := by decide +kernel
theorem dX2_close_27 : decode cX2_close 27 = .ok (.goto 11, 3) := by decide +kernel
theorem dX2_close_30 : decode cX2_close 30 = .ok (.aload_n 0, 1) := by decide +kernel
theorem dX2_close_31 : decode cX2_close 31 = .ok (.aload_n 0, 1) := by decide +kernel
theorem dX2_close_32 : decode cX2_close 32 = .ok (.getfield 38, 3) := by decide +kernel
theorem dX2_close_35 : decode cX2_close 35 = .ok (.putfield 41, 3) := by decide +kernel
theorem dX2_close_38 : decode cX2_close 38 = .ok (.return_, 1) := by decide +kernel
set_option maxRecDepth 100000 in
theorem ggX2_readNumber_X2_letter : GoodIn wsX2_readNumber wsX2_letter := goodIn_r _ [6, 1, 7, 8, 16, 17, 18, 19, 20, 21, 22, 23, 24, 25, 26, 27] rfl gd_wsX2_letter
set_option maxRecDepth 100000 in
theorem gX2_readNumber_X2_letter : GoodIn wsX2_readNumber (wsV RX2 50 RX2 yX2_letter wsX2_letter) := goodIn_app (goodIn_r _ [2, 3, 4, 5] rfl (by decide +kernel)) ggX2_readNumber_X2_letter
set_option maxRecDepth 100000 in
theorem ggX2_readNumber_X2_emit : GoodIn wsX2_readNumber wsX2_emit := goodIn_r _ [12, 13, 14, 15, 16, 17, 18, 19, 20, 21, 22, 23, 24, 25, 26, 27] rfl gd_wsX2_emit
set_option maxRecDepth 100000 in
theorem gX2_readNumber_X2_emit : GoodIn wsX2_readNumber (wsV RX2 61 RX2 yX2_emit wsX2_emit) := goodIn_app (goodIn_r _ [9, 10, 11, 5] rfl (by decide +kernel)) ggX2_readNumber_X2_emit
theorem dX2_readNumber_0 : decode cX2_readNumber 0 = .ok (.iconst 0, 1) := by decide +kernel
theorem dX2_readNumber_1 : decode cX2_readNumber 1 = .ok (.istore_n 1, 1) := by decide +kernel
theorem dX2_readNumber_2 : decode cX2_readNumber 2 = .ok (.iconst 0, 1) := by decide +kernel
theorem dX2_readNumber_3 : decode cX2_readNumber 3 = .ok (.istore_n 2, 1) := by decide +kernel
theorem dX2_readNumber_4 : decode cX2_readNumber 4 = .ok (.iload_n 2, 1) := by decide +kernel
theorem dX2_readNumber_5 : decode cX2_readNumber 5 = .ok (.iconst 4, 1) := by decide +kernel
theorem dX2_readNumber_6 : decode cX2_readNumber 6 = .ok (.if_icmp .ge 50, 3) := by decide +kernel
theorem dX2_readNumber_9 : decode cX2_readNumber 9 = .ok (.aload_n 0, 1) := by decide +kernel
theorem dX2_readNumber_10 : decode cX2_readNumber 10 = .ok (.invokevirtual 50, 3) := by decide +kernel
theorem dX2_readNumber_13 : decode cX2_readNumber 13 = .ok (.bipush 48, 2) := by decide +kernel
theorem dX2_readNumber_15 : decode cX2_readNumber 15 = .ok (.if_icmp .lt 41, 3) := by decide +kernel
theorem dX2_readNumber_18 : decode cX2_readNumber 18 = .ok (.aload_n 0, 1) := by decide +kernel
theorem dX2_readNumber_19 : decode cX2_readNumber 19 = .ok (.invokevirtual 50, 3) := by decide +kernel
theorem dX2_readNumber_22 : decode cX2_readNumber 22 = .ok (.bipush 57, 2) := by decide +kernel
theorem dX2_readNumber_24 : decode cX2_readNumber 24 = .ok (.if_icmp .gt 32, 3) := by decide +kernel
theorem dX2_readNumber_27 : decode cX2_readNumber 27 = .ok (.iload_n 1, 1) := by decide +kernel
theorem dX2_readNumber_28 : decode cX2_readNumber 28 = .ok (.bipush 10, 2) := by decide +kernel
theorem dX2_readNumber_30 : decode cX2_readNumber 30 = .ok (.imul, 1) := by decide +kernel
theorem dX2_readNumber_31 : decode cX2_readNumber 31 = .ok (.aload_n 0, 1) := by decide +kernel
theorem dX2_readNumber_32 : decode cX2_readNumber 32 = .ok (.invokevirtual 50, 3) := by decide +kernel
theorem dX2_readNumber_35 : decode cX2_readNumber 35 = .ok (.iadd, 1) := by decide +kernel
theorem dX2_readNumber_36 : decode cX2_readNumber 36 = .ok (.bipush 48, 2) := by decide +kernel
theorem dX2_readNumber_38 : decode cX2_readNumber 38 = .ok (.isub, 1) := by decide +kernel
theorem dX2_readNumber_39 : decode cX2_readNumber 39 = .ok (.istore_n 1, 1) := by decide +kernel
theorem dX2_readNumber_40 : decode cX2_readNumber 40 = .ok (.aload_n 0, 1) := by decide +kernel
theorem dX2_readNumber_41 : decode cX2_readNumber 41 = .ok (.dup, 1) := by decide +kernel
theorem dX2_readNumber_42 : decode cX2_readNumber 42 = .ok (.getfield 38, 3) := by decide +kernel
theorem dX2_readNumber_45 : decode cX2_readNumber 45 = .ok (.iconst 1, 1) := by decide +kernel
theorem dX2_readNumber_46 : decode cX2_readNumber 46 = .ok (.iadd, 1) := by decide +kernel
theorem dX2_readNumber_47 : decode cX2_readNumber 47 = .ok (.putfield 38, 3) := by decide +kernel
theorem dX2_readNumber_50 : decode cX2_readNumber 50 = .ok (.iinc 2 1, 3) := by decide +kernel
theorem dX2_readNumber_53 : decode cX2_readNumber 53 = .ok (.goto (-49), 3) := by decide +kernel
theorem dX2_readNumber_56 : decode cX2_readNumber 56 = .ok (.aload_n 0, 1) := by decide +kernel
theorem dX2_readNumber_57 : decode cX2_readNumber 57 = .ok (.iconst 1, 1) := by decide +kernel
theorem dX2_readNumber_58 : decode cX2_readNumber 58 = .ok (.iload_n 1, 1) := by decide +kernel
theorem dX2_readNumber_59 : decode cX2_readNumber 59 = .ok (.invokevirtual 61, 3) := by decide +kernel
theorem dX2_readNumber_62 : decode cX2_readNumber 62 = .ok (.return_, 1) := by decide +kernel
theorem dX2_letter_0 : decode cX2_letter 0 = .ok (.aload_n 0, 1) := by decide +kernel
theorem dX2_letter_1 : decode cX2_letter 1 = .ok (.getfield 38, 3) := by decide +kernel
theorem dX2_letter_4 : decode cX2_letter 4 = .ok (.aload_n 0, 1) := by decide +kernel
theorem dX2_letter_5 : decode cX2_letter 5 = .ok (.getfield 31, 3) := by decide +kernel
theorem dX2_letter_8 : decode cX2_letter 8 = .ok (.if_icmp .ge 15, 3) := by decide +kernel
theorem dX2_letter_11 : decode cX2_letter 11 = .ok (.aload_n 0, 1) := by decide +kernel
theorem dX2_letter_12 : decode cX2_letter 12 = .ok (.getfield 13, 3) := by decide +kernel
theorem dX2_letter_15 : decode cX2_letter 15 = .ok (.aload_n 0, 1) := by decide +kernel
theorem dX2_letter_16 : decode cX2_letter 16 = .ok (.getfield 38, 3) := by decide +kernel
theorem dX2_letter_19 : decode cX2_letter 19 = .ok (.iaload, 1) := by decide +kernel
theorem dX2_letter_20 : decode cX2_letter 20 = .ok (.goto 4, 3) := by decide +kernel
theorem dX2_letter_23 : decode cX2_letter 23 = .ok (.iconst (-1), 1) := by decide +kernel
theorem dX2_letter_24 : decode cX2_letter 24 = .ok (.ireturn, 1) := by decide +kernel
theorem dX2_emit_0 : decode cX2_emit 0 = .ok (.aload_n 0, 1) := by decide +kernel
theorem dX2_emit_1 : decode cX2_emit 1 = .ok (.getfield 44, 3) := by decide +kernel
theorem dX2_emit_4 : decode cX2_emit 4 = .ok (.sipush 128, 3) := by decide +kernel
theorem dX2_emit_7 : decode cX2_emit 7 = .ok (.if_icmp .ge 33, 3) := by decide +kernel
theorem dX2_emit_10 : decode cX2_emit 10 = .ok (.aload_n 0, 1) := by decide +kernel
theorem dX2_emit_11 : decode cX2_emit 11 = .ok (.getfield 25, 3) := by decide +kernel
theorem dX2_emit_14 : decode cX2_emit 14 = .ok (.aload_n 0, 1) := by decide +kernel
theorem dX2_emit_15 : decode cX2_emit 15 = .ok (.getfield 44, 3) := by decide +kernel
theorem dX2_emit_18 : decode cX2_emit 18 = .ok (.iload_n 1, 1) := by decide +kernel
theorem dX2_emit_19 : decode cX2_emit 19 = .ok (.iastore, 1) := by decide +kernel
theorem dX2_emit_20 : decode cX2_emit 20 = .ok (.aload_n 0, 1) := by decide +kernel
theorem dX2_emit_21 : decode cX2_emit 21 = .ok (.getfield 28, 3) := by decide +kernel
theorem dX2_emit_24 : decode cX2_emit 24 = .ok (.aload_n 0, 1) := by decide +kernel
theorem dX2_emit_25 : decode cX2_emit 25 = .ok (.getfield 44, 3) := by decide +kernel
theorem dX2_emit_28 : decode cX2_emit 28 = .ok (.iload_n 2, 1) := by decide +kernel
theorem dX2_emit_29 : decode cX2_emit 29 = .ok (.iastore, 1) := by decide +kernel
theorem dX2_emit_30 : decode cX2_emit 30 = .ok (.aload_n 0, 1) := by decide +kernel
theorem dX2_emit_31 : decode cX2_emit 31 = .ok (.dup, 1) := by decide +kernel
theorem dX2_emit_32 : decode cX2_emit 32 = .ok (.getfield 44, 3) := by decide +kernel
theorem dX2_emit_35 : decode cX2_emit 35 = .ok (.iconst 1, 1) := by decide +kernel
theorem dX2_emit_36 : decode cX2_emit 36 = .ok (.iadd, 1) := by decide +kernel
theorem dX2_emit_37 : decode cX2_emit 37 = .ok (.putfield 44, 3) := by decide +kernel
theorem dX2_emit_40 : decode cX2_emit 40 = .ok (.return_, 1) := by decide +kernel
theorem dX2_nameOf_0 : decode cX2_nameOf 0 = .ok (.iload_n 0, 1) := by decide +kernel
theorem dX2_nameOf_1 : decode cX2_nameOf 1 = .ok (.tableswitch 99 97 114 #[95, 97, 99, 87, 99, 99, 99, 93, 99, 99, 99, 99, 99, 99, 99, 99, 91, 89], 87) := by decide +kernel
theorem dX2_nameOf_88 : decode cX2_nameOf 88 = .ok (.iconst 0, 1) := by decide +kernel
theorem dX2_nameOf_89 : decode cX2_nameOf 89 = .ok (.ireturn, 1) := by decide +kernel
theorem dX2_nameOf_90 : decode cX2_nameOf 90 = .ok (.iconst 1, 1) := by decide +kernel
theorem dX2_nameOf_91 : decode cX2_nameOf 91 = .ok (.ireturn, 1) := by decide +kernel
theorem dX2_nameOf_92 : decode cX2_nameOf 92 = .ok (.iconst 2, 1) := by decide +kernel
theorem dX2_nameOf_93 : decode cX2_nameOf 93 = .ok (.ireturn, 1) := by decide +kernel
theorem dX2_nameOf_94 : decode cX2_nameOf 94 = .ok (.iconst 3, 1) := by decide +kernel
theorem dX2_nameOf_95 : decode cX2_nameOf 95 = .ok (.ireturn, 1) := by decide +kernel
theorem dX2_nameOf_96 : decode cX2_nameOf 96 = .ok (.iconst 4, 1) := by decide +kernel
theorem dX2_nameOf_97 : decode cX2_nameOf 97 = .ok (.ireturn, 1) := by decide +kernel
theorem dX2_nameOf_98 : decode cX2_nameOf 98 = .ok (.iconst 5, 1) := by decide +kernel
theorem dX2_nameOf_99 : decode cX2_nameOf 99 = .ok (.ireturn, 1) := by decide +kernel
theorem dX2_nameOf_100 : decode cX2_nameOf 100 = .ok (.iconst (-1), 1) := by decide +kernel
theorem dX2_nameOf_101 : decode cX2_nameOf 101 = .ok (.ireturn, 1) := by decide +kernel
theorem dX2_levelOf_0 : decode cX2_levelOf 0 = .ok (.iload_n 0, 1) := by decide +kernel
theorem dX2_levelOf_1 : decode cX2_levelOf 1 = .ok (.lookupswitch 101 #[(37, 99), (38, 93), (42, 99), (43, 97), (45, 97), (47, 99), (60, 95), (61, 95), (62, 95), (124, 91)], 91) := by decide +kernel
theorem dX2_levelOf_92 : decode cX2_levelOf 92 = .ok (.iconst 0, 1) := by decide +kernel
theorem dX2_levelOf_93 : decode cX2_levelOf 93 = .ok (.ireturn, 1) := by decide +kernel
theorem dX2_levelOf_94 : decode cX2_levelOf 94 = .ok (.iconst 1, 1) := by decide +kernel
theorem dX2_levelOf_95 : decode cX2_levelOf 95 = .ok (.ireturn, 1) := by decide +kernel
theorem dX2_levelOf_96 : decode cX2_levelOf 96 = .ok (.iconst 2, 1) := by decide +kernel
theorem dX2_levelOf_97 : decode cX2_levelOf 97 = .ok (.ireturn, 1) := by decide +kernel
theorem dX2_levelOf_98 : decode cX2_levelOf 98 = .ok (.iconst 3, 1) := by decide +kernel
theorem dX2_levelOf_99 : decode cX2_levelOf 99 = .ok (.ireturn, 1) := by decide +kernel
theorem dX2_levelOf_100 : decode cX2_levelOf 100 = .ok (.iconst 4, 1) := by decide +kernel
theorem dX2_levelOf_101 : decode cX2_levelOf 101 = .ok (.ireturn, 1) := by decide +kernel
theorem dX2_levelOf_102 : decode cX2_levelOf 102 = .ok (.iconst (-1), 1) := by decide +kernel
theorem dX2_levelOf_103 : decode cX2_levelOf 103 = .ok (.ireturn, 1) := by decide +kernel
set_option maxRecDepth 20000 in
theorem gd_wsX2_workOut : wsX2_workOut.all goodWord = true := by decide +kernel
set_option maxRecDepth 100000 in
theorem ggX2_value_X2_workOut : GoodIn wsX2_value wsX2_workOut := goodIn_r _ [13] rfl gd_wsX2_workOut
set_option maxRecDepth 100000 in
theorem gX2_value_X2_workOut : GoodIn wsX2_value (va_wsS RX2 87 yX2_workOut wsX2_workOut) := goodIn_app (goodIn_r _ [10, 11, 12] rfl (by decide +kernel)) ggX2_value_X2_workOut
theorem dX2_value_0 : decode cX2_value 0 = .ok (.iconst 0, 1) := by decide +kernel
theorem dX2_value_1 : decode cX2_value 1 = .ok (.istore_n 1, 1) := by decide +kernel
theorem dX2_value_2 : decode cX2_value 2 = .ok (.iconst 0, 1) := by decide +kernel
theorem dX2_value_3 : decode cX2_value 3 = .ok (.istore_n 2, 1) := by decide +kernel
theorem dX2_value_4 : decode cX2_value 4 = .ok (.iload_n 2, 1) := by decide +kernel
theorem dX2_value_5 : decode cX2_value 5 = .ok (.aload_n 0, 1) := by decide +kernel
theorem dX2_value_6 : decode cX2_value 6 = .ok (.getfield 35, 3) := by decide +kernel
theorem dX2_value_9 : decode cX2_value 9 = .ok (.if_icmp .ge 198, 3) := by decide +kernel
theorem dX2_value_12 : decode cX2_value 12 = .ok (.aload_n 0, 1) := by decide +kernel
theorem dX2_value_13 : decode cX2_value 13 = .ok (.getfield 19, 3) := by decide +kernel
theorem dX2_value_16 : decode cX2_value 16 = .ok (.iload_n 2, 1) := by decide +kernel
theorem dX2_value_17 : decode cX2_value 17 = .ok (.iaload, 1) := by decide +kernel
theorem dX2_value_18 : decode cX2_value 18 = .ok (.istore_n 3, 1) := by decide +kernel
theorem dX2_value_19 : decode cX2_value 19 = .ok (.aload_n 0, 1) := by decide +kernel
theorem dX2_value_20 : decode cX2_value 20 = .ok (.getfield 22, 3) := by decide +kernel
theorem dX2_value_23 : decode cX2_value 23 = .ok (.iload_n 2, 1) := by decide +kernel
theorem dX2_value_24 : decode cX2_value 24 = .ok (.iaload, 1) := by decide +kernel
theorem dX2_value_25 : decode cX2_value 25 = .ok (.istore 4, 2) := by decide +kernel
theorem dX2_value_27 : decode cX2_value 27 = .ok (.iload_n 3, 1) := by decide +kernel
theorem dX2_value_28 : decode cX2_value 28 = .ok (.iconst 1, 1) := by decide +kernel
theorem dX2_value_29 : decode cX2_value 29 = .ok (.if_icmp .eq 8, 3) := by decide +kernel
theorem dX2_value_32 : decode cX2_value 32 = .ok (.iload_n 3, 1) := by decide +kernel
theorem dX2_value_33 : decode cX2_value 33 = .ok (.iconst 2, 1) := by decide +kernel
theorem dX2_value_34 : decode cX2_value 34 = .ok (.if_icmp .ne 56, 3) := by decide +kernel
theorem dX2_value_37 : decode cX2_value 37 = .ok (.iload_n 1, 1) := by decide +kernel
theorem dX2_value_38 : decode cX2_value 38 = .ok (.sipush 128, 3) := by decide +kernel
theorem dX2_value_41 : decode cX2_value 41 = .ok (.if_icmp .ge 18, 3) := by decide +kernel
theorem dX2_value_44 : decode cX2_value 44 = .ok (.iload_n 3, 1) := by decide +kernel
theorem dX2_value_45 : decode cX2_value 45 = .ok (.iconst 2, 1) := by decide +kernel
theorem dX2_value_46 : decode cX2_value 46 = .ok (.if_icmp .ne 15, 3) := by decide +kernel
theorem dX2_value_49 : decode cX2_value 49 = .ok (.iload 4, 2) := by decide +kernel
theorem dX2_value_51 : decode cX2_value 51 = .ok (.aload_n 0, 1) := by decide +kernel
theorem dX2_value_52 : decode cX2_value 52 = .ok (.getfield 7, 3) := by decide +kernel
theorem dX2_value_55 : decode cX2_value 55 = .ok (.arraylength, 1) := by decide +kernel
theorem dX2_value_56 : decode cX2_value 56 = .ok (.if_icmp .lt 5, 3) := by decide +kernel
theorem dX2_value_59 : decode cX2_value 59 = .ok (.iconst 0, 1) := by decide +kernel
theorem dX2_value_60 : decode cX2_value 60 = .ok (.ireturn, 1) := by decide +kernel
theorem dX2_value_61 : decode cX2_value 61 = .ok (.aload_n 0, 1) := by decide +kernel
theorem dX2_value_62 : decode cX2_value 62 = .ok (.getfield 16, 3) := by decide +kernel
theorem dX2_value_65 : decode cX2_value 65 = .ok (.iload_n 1, 1) := by decide +kernel
theorem dX2_value_66 : decode cX2_value 66 = .ok (.iload_n 3, 1) := by decide +kernel
theorem dX2_value_67 : decode cX2_value 67 = .ok (.iconst 1, 1) := by decide +kernel
theorem dX2_value_68 : decode cX2_value 68 = .ok (.if_icmp .ne 8, 3) := by decide +kernel
theorem dX2_value_71 : decode cX2_value 71 = .ok (.iload 4, 2) := by decide +kernel
theorem dX2_value_73 : decode cX2_value 73 = .ok (.goto 10, 3) := by decide +kernel
theorem dX2_value_76 : decode cX2_value 76 = .ok (.aload_n 0, 1) := by decide +kernel
theorem dX2_value_77 : decode cX2_value 77 = .ok (.getfield 7, 3) := by decide +kernel
theorem dX2_value_80 : decode cX2_value 80 = .ok (.iload 4, 2) := by decide +kernel
theorem dX2_value_82 : decode cX2_value 82 = .ok (.iaload, 1) := by decide +kernel
theorem dX2_value_83 : decode cX2_value 83 = .ok (.iastore, 1) := by decide +kernel
theorem dX2_value_84 : decode cX2_value 84 = .ok (.iinc 1 1, 3) := by decide +kernel
theorem dX2_value_87 : decode cX2_value 87 = .ok (.goto 114, 3) := by decide +kernel
theorem dX2_value_90 : decode cX2_value 90 = .ok (.iload_n 1, 1) := by decide +kernel
theorem dX2_value_91 : decode cX2_value 91 = .ok (.iconst 1, 1) := by decide +kernel
theorem dX2_value_92 : decode cX2_value 92 = .ok (.if_icmp .ge 5, 3) := by decide +kernel
theorem dX2_value_95 : decode cX2_value 95 = .ok (.iconst 0, 1) := by decide +kernel
theorem dX2_value_96 : decode cX2_value 96 = .ok (.ireturn, 1) := by decide +kernel
theorem dX2_value_97 : decode cX2_value 97 = .ok (.iinc 1 (-1), 3) := by decide +kernel
theorem dX2_value_100 : decode cX2_value 100 = .ok (.aload_n 0, 1) := by decide +kernel
theorem dX2_value_101 : decode cX2_value 101 = .ok (.getfield 16, 3) := by decide +kernel
theorem dX2_value_104 : decode cX2_value 104 = .ok (.iload_n 1, 1) := by decide +kernel
theorem dX2_value_105 : decode cX2_value 105 = .ok (.iaload, 1) := by decide +kernel
theorem dX2_value_106 : decode cX2_value 106 = .ok (.istore 5, 2) := by decide +kernel
theorem dX2_value_108 : decode cX2_value 108 = .ok (.iload_n 3, 1) := by decide +kernel
theorem dX2_value_109 : decode cX2_value 109 = .ok (.iconst 4, 1) := by decide +kernel
theorem dX2_value_110 : decode cX2_value 110 = .ok (.if_icmp .ne 6, 3) := by decide +kernel
theorem dX2_value_113 : decode cX2_value 113 = .ok (.iload 5, 2) := by decide +kernel
theorem dX2_value_115 : decode cX2_value 115 = .ok (.ireturn, 1) := by decide +kernel
theorem dX2_value_116 : decode cX2_value 116 = .ok (.iload_n 3, 1) := by decide +kernel
theorem dX2_value_117 : decode cX2_value 117 = .ok (.iconst 3, 1) := by decide +kernel
theorem dX2_value_118 : decode cX2_value 118 = .ok (.if_icmp .ne 24, 3) := by decide +kernel
theorem dX2_value_121 : decode cX2_value 121 = .ok (.iload 5, 2) := by decide +kernel
theorem dX2_value_123 : decode cX2_value 123 = .ok (.ifCond .ne 14, 3) := by decide +kernel
theorem dX2_value_126 : decode cX2_value 126 = .ok (.iload_n 2, 1) := by decide +kernel
theorem dX2_value_127 : decode cX2_value 127 = .ok (.iload 4, 2) := by decide +kernel
theorem dX2_value_129 : decode cX2_value 129 = .ok (.iconst 1, 1) := by decide +kernel
theorem dX2_value_130 : decode cX2_value 130 = .ok (.isub, 1) := by decide +kernel
theorem dX2_value_131 : decode cX2_value 131 = .ok (.invokestatic 81, 3) := by decide +kernel
theorem dX2_value_134 : decode cX2_value 134 = .ok (.goto 4, 3) := by decide +kernel
theorem dX2_value_137 : decode cX2_value 137 = .ok (.iload_n 2, 1) := by decide +kernel
theorem dX2_value_138 : decode cX2_value 138 = .ok (.istore_n 2, 1) := by decide +kernel
theorem dX2_value_139 : decode cX2_value 139 = .ok (.goto 62, 3) := by decide +kernel
theorem dX2_value_142 : decode cX2_value 142 = .ok (.iload_n 3, 1) := by decide +kernel
theorem dX2_value_143 : decode cX2_value 143 = .ok (.bipush 6, 2) := by decide +kernel
theorem dX2_value_145 : decode cX2_value 145 = .ok (.if_icmp .eq 8, 3) := by decide +kernel
theorem dX2_value_148 : decode cX2_value 148 = .ok (.iload_n 3, 1) := by decide +kernel
theorem dX2_value_149 : decode cX2_value 149 = .ok (.iconst 5, 1) := by decide +kernel
theorem dX2_value_150 : decode cX2_value 150 = .ok (.if_icmp .ne 7, 3) := by decide +kernel
theorem dX2_value_153 : decode cX2_value 153 = .ok (.iconst 1, 1) := by decide +kernel
theorem dX2_value_154 : decode cX2_value 154 = .ok (.goto 4, 3) := by decide +kernel
theorem dX2_value_157 : decode cX2_value 157 = .ok (.iconst 0, 1) := by decide +kernel
theorem dX2_value_158 : decode cX2_value 158 = .ok (.istore 6, 2) := by decide +kernel
theorem dX2_value_160 : decode cX2_value 160 = .ok (.iload 6, 2) := by decide +kernel
theorem dX2_value_162 : decode cX2_value 162 = .ok (.ifCond .ne 10, 3) := by decide +kernel
theorem dX2_value_165 : decode cX2_value 165 = .ok (.iload_n 1, 1) := by decide +kernel
theorem dX2_value_166 : decode cX2_value 166 = .ok (.iconst 1, 1) := by decide +kernel
theorem dX2_value_167 : decode cX2_value 167 = .ok (.if_icmp .ge 5, 3) := by decide +kernel
theorem dX2_value_170 : decode cX2_value 170 = .ok (.iconst 0, 1) := by decide +kernel
theorem dX2_value_171 : decode cX2_value 171 = .ok (.ireturn, 1) := by decide +kernel
theorem dX2_value_172 : decode cX2_value 172 = .ok (.iload 6, 2) := by decide +kernel
theorem dX2_value_174 : decode cX2_value 174 = .ok (.ifCond .ne 6, 3) := by decide +kernel
theorem dX2_value_177 : decode cX2_value 177 = .ok (.iinc 1 (-1), 3) := by decide +kernel
theorem dX2_value_180 : decode cX2_value 180 = .ok (.aload_n 0, 1) := by decide +kernel
theorem dX2_value_181 : decode cX2_value 181 = .ok (.getfield 16, 3) := by decide +kernel
theorem dX2_value_184 : decode cX2_value 184 = .ok (.iload_n 1, 1) := by decide +kernel
theorem dX2_value_185 : decode cX2_value 185 = .ok (.iload_n 3, 1) := by decide +kernel
theorem dX2_value_186 : decode cX2_value 186 = .ok (.aload_n 0, 1) := by decide +kernel
theorem dX2_value_187 : decode cX2_value 187 = .ok (.getfield 16, 3) := by decide +kernel
theorem dX2_value_190 : decode cX2_value 190 = .ok (.iload_n 1, 1) := by decide +kernel
theorem dX2_value_191 : decode cX2_value 191 = .ok (.iaload, 1) := by decide +kernel
theorem dX2_value_192 : decode cX2_value 192 = .ok (.iload 5, 2) := by decide +kernel
theorem dX2_value_194 : decode cX2_value 194 = .ok (.invokestatic 87, 3) := by decide +kernel
theorem dX2_value_197 : decode cX2_value 197 = .ok (.iastore, 1) := by decide +kernel
theorem dX2_value_198 : decode cX2_value 198 = .ok (.iinc 1 1, 3) := by decide +kernel
theorem dX2_value_201 : decode cX2_value 201 = .ok (.iinc 2 1, 3) := by decide +kernel
theorem dX2_value_204 : decode cX2_value 204 = .ok (.goto (-200), 3) := by decide +kernel
theorem dX2_value_207 : decode cX2_value 207 = .ok (.iconst 0, 1) := by decide +kernel
theorem dX2_value_208 : decode cX2_value 208 = .ok (.ireturn, 1) := by decide +kernel
theorem dX2_workOut_0 : decode cX2_workOut 0 = .ok (.iload_n 0, 1) := by decide +kernel
theorem dX2_workOut_1 : decode cX2_workOut 1 = .ok (.lookupswitch 217 #[(5, 117), (6, 107), (37, 205), (38, 134), (42, 189), (43, 181), (45, 185), (47, 193), (60, 148), (61, 159), (62, 170), (124, 120)], 107) := by decide +kernel
theorem dX2_workOut_108 : decode cX2_workOut 108 = .ok (.iload_n 2, 1) := by decide +kernel
theorem dX2_workOut_109 : decode cX2_workOut 109 = .ok (.ifCond .ne 7, 3) := by decide +kernel
theorem dX2_workOut_112 : decode cX2_workOut 112 = .ok (.iconst 1, 1) := by decide +kernel
theorem dX2_workOut_113 : decode cX2_workOut 113 = .ok (.goto 4, 3) := by decide +kernel
theorem dX2_workOut_116 : decode cX2_workOut 116 = .ok (.iconst 0, 1) := by decide +kernel
theorem dX2_workOut_117 : decode cX2_workOut 117 = .ok (.ireturn, 1) := by decide +kernel
theorem dX2_workOut_118 : decode cX2_workOut 118 = .ok (.iload_n 2, 1) := by decide +kernel
theorem dX2_workOut_119 : decode cX2_workOut 119 = .ok (.ineg, 1) := by decide +kernel
theorem dX2_workOut_120 : decode cX2_workOut 120 = .ok (.ireturn, 1) := by decide +kernel
theorem dX2_workOut_121 : decode cX2_workOut 121 = .ok (.iload_n 1, 1) := by decide +kernel
theorem dX2_workOut_122 : decode cX2_workOut 122 = .ok (.ifCond .ne 7, 3) := by decide +kernel
theorem dX2_workOut_125 : decode cX2_workOut 125 = .ok (.iload_n 2, 1) := by decide +kernel
theorem dX2_workOut_126 : decode cX2_workOut 126 = .ok (.ifCond .eq 7, 3) := by decide +kernel
theorem dX2_workOut_129 : decode cX2_workOut 129 = .ok (.iconst 1, 1) := by decide +kernel
theorem dX2_workOut_130 : decode cX2_workOut 130 = .ok (.goto 4, 3) := by decide +kernel
theorem dX2_workOut_133 : decode cX2_workOut 133 = .ok (.iconst 0, 1) := by decide +kernel
theorem dX2_workOut_134 : decode cX2_workOut 134 = .ok (.ireturn, 1) := by decide +kernel
theorem dX2_workOut_135 : decode cX2_workOut 135 = .ok (.iload_n 1, 1) := by decide +kernel
theorem dX2_workOut_136 : decode cX2_workOut 136 = .ok (.ifCond .eq 11, 3) := by decide +kernel
theorem dX2_workOut_139 : decode cX2_workOut 139 = .ok (.iload_n 2, 1) := by decide +kernel
theorem dX2_workOut_140 : decode cX2_workOut 140 = .ok (.ifCond .eq 7, 3) := by decide +kernel
theorem dX2_workOut_143 : decode cX2_workOut 143 = .ok (.iconst 1, 1) := by decide +kernel
theorem dX2_workOut_144 : decode cX2_workOut 144 = .ok (.goto 4, 3) := by decide +kernel
theorem dX2_workOut_147 : decode cX2_workOut 147 = .ok (.iconst 0, 1) := by decide +kernel
theorem dX2_workOut_148 : decode cX2_workOut 148 = .ok (.ireturn, 1) := by decide +kernel
theorem dX2_workOut_149 : decode cX2_workOut 149 = .ok (.iload_n 1, 1) := by decide +kernel
theorem dX2_workOut_150 : decode cX2_workOut 150 = .ok (.iload_n 2, 1) := by decide +kernel
theorem dX2_workOut_151 : decode cX2_workOut 151 = .ok (.if_icmp .ge 7, 3) := by decide +kernel
theorem dX2_workOut_154 : decode cX2_workOut 154 = .ok (.iconst 1, 1) := by decide +kernel
theorem dX2_workOut_155 : decode cX2_workOut 155 = .ok (.goto 4, 3) := by decide +kernel
theorem dX2_workOut_158 : decode cX2_workOut 158 = .ok (.iconst 0, 1) := by decide +kernel
theorem dX2_workOut_159 : decode cX2_workOut 159 = .ok (.ireturn, 1) := by decide +kernel
theorem dX2_workOut_160 : decode cX2_workOut 160 = .ok (.iload_n 1, 1) := by decide +kernel
theorem dX2_workOut_161 : decode cX2_workOut 161 = .ok (.iload_n 2, 1) := by decide +kernel
theorem dX2_workOut_162 : decode cX2_workOut 162 = .ok (.if_icmp .ne 7, 3) := by decide +kernel
theorem dX2_workOut_165 : decode cX2_workOut 165 = .ok (.iconst 1, 1) := by decide +kernel
theorem dX2_workOut_166 : decode cX2_workOut 166 = .ok (.goto 4, 3) := by decide +kernel
theorem dX2_workOut_169 : decode cX2_workOut 169 = .ok (.iconst 0, 1) := by decide +kernel
theorem dX2_workOut_170 : decode cX2_workOut 170 = .ok (.ireturn, 1) := by decide +kernel
theorem dX2_workOut_171 : decode cX2_workOut 171 = .ok (.iload_n 1, 1) := by decide +kernel
theorem dX2_workOut_172 : decode cX2_workOut 172 = .ok (.iload_n 2, 1) := by decide +kernel
theorem dX2_workOut_173 : decode cX2_workOut 173 = .ok (.if_icmp .le 7, 3) := by decide +kernel
theorem dX2_workOut_176 : decode cX2_workOut 176 = .ok (.iconst 1, 1) := by decide +kernel
theorem dX2_workOut_177 : decode cX2_workOut 177 = .ok (.goto 4, 3) := by decide +kernel
theorem dX2_workOut_180 : decode cX2_workOut 180 = .ok (.iconst 0, 1) := by decide +kernel
theorem dX2_workOut_181 : decode cX2_workOut 181 = .ok (.ireturn, 1) := by decide +kernel
theorem dX2_workOut_182 : decode cX2_workOut 182 = .ok (.iload_n 1, 1) := by decide +kernel
theorem dX2_workOut_183 : decode cX2_workOut 183 = .ok (.iload_n 2, 1) := by decide +kernel
theorem dX2_workOut_184 : decode cX2_workOut 184 = .ok (.iadd, 1) := by decide +kernel
theorem dX2_workOut_185 : decode cX2_workOut 185 = .ok (.ireturn, 1) := by decide +kernel
theorem dX2_workOut_186 : decode cX2_workOut 186 = .ok (.iload_n 1, 1) := by decide +kernel
theorem dX2_workOut_187 : decode cX2_workOut 187 = .ok (.iload_n 2, 1) := by decide +kernel
theorem dX2_workOut_188 : decode cX2_workOut 188 = .ok (.isub, 1) := by decide +kernel
theorem dX2_workOut_189 : decode cX2_workOut 189 = .ok (.ireturn, 1) := by decide +kernel
theorem dX2_workOut_190 : decode cX2_workOut 190 = .ok (.iload_n 1, 1) := by decide +kernel
theorem dX2_workOut_191 : decode cX2_workOut 191 = .ok (.iload_n 2, 1) := by decide +kernel
theorem dX2_workOut_192 : decode cX2_workOut 192 = .ok (.imul, 1) := by decide +kernel
theorem dX2_workOut_193 : decode cX2_workOut 193 = .ok (.ireturn, 1) := by decide +kernel
theorem dX2_workOut_194 : decode cX2_workOut 194 = .ok (.iload_n 2, 1) := by decide +kernel
theorem dX2_workOut_195 : decode cX2_workOut 195 = .ok (.ifCond .ne 7, 3) := by decide +kernel
theorem dX2_workOut_198 : decode cX2_workOut 198 = .ok (.iconst 0, 1) := by decide +kernel
theorem dX2_workOut_199 : decode cX2_workOut 199 = .ok (.goto 6, 3) := by decide +kernel
theorem dX2_workOut_202 : decode cX2_workOut 202 = .ok (.iload_n 1, 1) := by decide +kernel
theorem dX2_workOut_203 : decode cX2_workOut 203 = .ok (.iload_n 2, 1) := by decide +kernel
theorem dX2_workOut_204 : decode cX2_workOut 204 = .ok (.idiv, 1) := by decide +kernel
theorem dX2_workOut_205 : decode cX2_workOut 205 = .ok (.ireturn, 1) := by decide +kernel
theorem dX2_workOut_206 : decode cX2_workOut 206 = .ok (.iload_n 2, 1) := by decide +kernel
theorem dX2_workOut_207 : decode cX2_workOut 207 = .ok (.ifCond .ne 7, 3) := by decide +kernel
theorem dX2_workOut_210 : decode cX2_workOut 210 = .ok (.iconst 0, 1) := by decide +kernel
theorem dX2_workOut_211 : decode cX2_workOut 211 = .ok (.goto 6, 3) := by decide +kernel
theorem dX2_workOut_214 : decode cX2_workOut 214 = .ok (.iload_n 1, 1) := by decide +kernel
theorem dX2_workOut_215 : decode cX2_workOut 215 = .ok (.iload_n 2, 1) := by decide +kernel
theorem dX2_workOut_216 : decode cX2_workOut 216 = .ok (.irem, 1) := by decide +kernel
theorem dX2_workOut_217 : decode cX2_workOut 217 = .ok (.ireturn, 1) := by decide +kernel
theorem dX2_workOut_218 : decode cX2_workOut 218 = .ok (.iconst 0, 1) := by decide +kernel
theorem dX2_workOut_219 : decode cX2_workOut 219 = .ok (.ireturn, 1) := by decide +kernel
theorem dX3_init_0 : decode cX3_init 0 = .ok (.aload_n 0, 1) := by decide +kernel
theorem dX3_init_1 : decode cX3_init 1 = .ok (.invokespecial 1, 3) := by decide +kernel
theorem dX3_init_4 : decode cX3_init 4 = .ok (.aload_n 0, 1) := by decide +kernel
theorem dX3_init_5 : decode cX3_init 5 = .ok (.bipush 24, 2) := by decide +kernel
theorem dX3_init_7 : decode cX3_init 7 = .ok (.newarray .int, 2) := by decide +kernel
theorem dX3_init_9 : decode cX3_init 9 = .ok (.putfield 9, 3) := by decide +kernel
theorem dX3_init_12 : decode cX3_init 12 = .ok (.aload_n 0, 1) := by decide +kernel
theorem dX3_init_13 : decode cX3_init 13 = .ok (.bipush 50, 2) := by decide +kernel
theorem dX3_init_15 : decode cX3_init 15 = .ok (.newarray .int, 2) := by decide +kernel
theorem dX3_init_17 : decode cX3_init 17 = .ok (.putfield 13, 3) := by decide +kernel
theorem dX3_init_20 : decode cX3_init 20 = .ok (.return_, 1) := by decide +kernel
theorem dX3_isKind_0 : decode cX3_isKind 0 = .ok (.iload_n 0, 1) := by decide +kernel
theorem dX3_isKind_1 : decode cX3_isKind 1 = .ok (.ifCond .lt 13, 3) := by decide +kernel
theorem dX3_isKind_4 : decode cX3_isKind 4 = .ok (.iload_n 0, 1) := by decide +kernel
theorem dX3_isKind_5 : decode cX3_isKind 5 = .ok (.bipush 8, 2) := by decide +kernel
theorem dX3_isKind_7 : decode cX3_isKind 7 = .ok (.if_icmp .ge 7, 3) := by decide +kernel
theorem dX3_isKind_10 : decode cX3_isKind 10 = .ok (.iconst 1, 1) := by decide +kernel
theorem dX3_isKind_11 : decode cX3_isKind 11 = .ok (.goto 4, 3) := by decide +kernel
theorem dX3_isKind_14 : decode cX3_isKind 14 = .ok (.iconst 0, 1) := by decide +kernel
theorem dX3_isKind_15 : decode cX3_isKind 15 = .ok (.ireturn, 1) := by decide +kernel
set_option maxRecDepth 20000 in
theorem gd_wsX3_isKind : wsX3_isKind.all goodWord = true := by decide +kernel
set_option maxRecDepth 100000 in
theorem ggX3_isUnder_X3_isKind : GoodIn wsX3_isUnder wsX3_isKind := goodIn_r _ [5] rfl gd_wsX3_isKind
set_option maxRecDepth 100000 in
theorem gX3_isUnder_X3_isKind : GoodIn wsX3_isUnder (va_wsS RX3 16 yX3_isKind wsX3_isKind) := goodIn_app (goodIn_r _ [2, 3, 4] rfl (by decide +kernel)) ggX3_isUnder_X3_isKind
theorem dX3_isUnder_0 : decode cX3_isUnder 0 = .ok (.iload_n 0, 1) := by decide +kernel
theorem dX3_isUnder_1 : decode cX3_isUnder 1 = .ok (.istore_n 2, 1) := by decide +kernel
theorem dX3_isUnder_2 : decode cX3_isUnder 2 = .ok (.iconst 0, 1) := by decide +kernel
theorem dX3_isUnder_3 : decode cX3_isUnder 3 = .ok (.istore_n 3, 1) := by decide +kernel
theorem dX3_isUnder_4 : decode cX3_isUnder 4 = .ok (.iload_n 3, 1) := by decide +kernel
theorem dX3_isUnder_5 : decode cX3_isUnder 5 = .ok (.bipush 8, 2) := by decide +kernel
theorem dX3_isUnder_7 : decode cX3_isUnder 7 = .ok (.if_icmp .ge 29, 3) := by decide +kernel
theorem dX3_isUnder_10 : decode cX3_isUnder 10 = .ok (.iload_n 2, 1) := by decide +kernel
theorem dX3_isUnder_11 : decode cX3_isUnder 11 = .ok (.invokestatic 16, 3) := by decide +kernel
theorem dX3_isUnder_14 : decode cX3_isUnder 14 = .ok (.ifCond .eq 22, 3) := by decide +kernel
theorem dX3_isUnder_17 : decode cX3_isUnder 17 = .ok (.iload_n 2, 1) := by decide +kernel
theorem dX3_isUnder_18 : decode cX3_isUnder 18 = .ok (.iload_n 1, 1) := by decide +kernel
theorem dX3_isUnder_19 : decode cX3_isUnder 19 = .ok (.if_icmp .ne 5, 3) := by decide +kernel
theorem dX3_isUnder_22 : decode cX3_isUnder 22 = .ok (.iconst 1, 1) := by decide +kernel
theorem dX3_isUnder_23 : decode cX3_isUnder 23 = .ok (.ireturn, 1) := by decide +kernel
theorem dX3_isUnder_24 : decode cX3_isUnder 24 = .ok (.getstatic 20, 3) := by decide +kernel
theorem dX3_isUnder_27 : decode cX3_isUnder 27 = .ok (.iload_n 2, 1) := by decide +kernel
theorem dX3_isUnder_28 : decode cX3_isUnder 28 = .ok (.iaload, 1) := by decide +kernel
theorem dX3_isUnder_29 : decode cX3_isUnder 29 = .ok (.istore_n 2, 1) := by decide +kernel
theorem dX3_isUnder_30 : decode cX3_isUnder 30 = .ok (.iinc 3 1, 3) := by decide +kernel
theorem dX3_isUnder_33 : decode cX3_isUnder 33 = .ok (.goto (-29), 3) := by decide +kernel
theorem dX3_isUnder_36 : decode cX3_isUnder 36 = .ok (.iconst 0, 1) := by decide +kernel
theorem dX3_isUnder_37 : decode cX3_isUnder 37 = .ok (.ireturn, 1) := by decide +kernel
theorem dX3_add_0 : decode cX3_add 0 = .ok (.aload_n 0, 1) := by decide +kernel
theorem dX3_add_1 : decode cX3_add 1 = .ok (.getfield 13, 3) := by decide +kernel
theorem dX3_add_4 : decode cX3_add 4 = .ok (.aload_n 0, 1) := by decide +kernel
theorem dX3_add_5 : decode cX3_add 5 = .ok (.getfield 23, 3) := by decide +kernel
theorem dX3_add_8 : decode cX3_add 8 = .ok (.iload_n 1, 1) := by decide +kernel
theorem dX3_add_9 : decode cX3_add 9 = .ok (.iastore, 1) := by decide +kernel
theorem dX3_add_10 : decode cX3_add 10 = .ok (.aload_n 0, 1) := by decide +kernel
theorem dX3_add_11 : decode cX3_add 11 = .ok (.dup, 1) := by decide +kernel
theorem dX3_add_12 : decode cX3_add 12 = .ok (.getfield 23, 3) := by decide +kernel
theorem dX3_add_15 : decode cX3_add 15 = .ok (.iconst 1, 1) := by decide +kernel
theorem dX3_add_16 : decode cX3_add 16 = .ok (.iadd, 1) := by decide +kernel
theorem dX3_add_17 : decode cX3_add 17 = .ok (.putfield 23, 3) := by decide +kernel
theorem dX3_add_20 : decode cX3_add 20 = .ok (.aload_n 0, 1) := by decide +kernel
theorem dX3_add_21 : decode cX3_add 21 = .ok (.getfield 23, 3) := by decide +kernel
theorem dX3_add_24 : decode cX3_add 24 = .ok (.iconst 1, 1) := by decide +kernel
theorem dX3_add_25 : decode cX3_add 25 = .ok (.isub, 1) := by decide +kernel
theorem dX3_add_26 : decode cX3_add 26 = .ok (.ireturn, 1) := by decide +kernel
theorem dX3_kindOf_0 : decode cX3_kindOf 0 = .ok (.iload_n 1, 1) := by decide +kernel
theorem dX3_kindOf_1 : decode cX3_kindOf 1 = .ok (.ifCond .lt 20, 3) := by decide +kernel
theorem dX3_kindOf_4 : decode cX3_kindOf 4 = .ok (.iload_n 1, 1) := by decide +kernel
theorem dX3_kindOf_5 : decode cX3_kindOf 5 = .ok (.aload_n 0, 1) := by decide +kernel
theorem dX3_kindOf_6 : decode cX3_kindOf 6 = .ok (.getfield 23, 3) := by decide +kernel
theorem dX3_kindOf_9 : decode cX3_kindOf 9 = .ok (.if_icmp .ge 12, 3) := by decide +kernel
theorem dX3_kindOf_12 : decode cX3_kindOf 12 = .ok (.aload_n 0, 1) := by decide +kernel
theorem dX3_kindOf_13 : decode cX3_kindOf 13 = .ok (.getfield 13, 3) := by decide +kernel
theorem dX3_kindOf_16 : decode cX3_kindOf 16 = .ok (.iload_n 1, 1) := by decide +kernel
theorem dX3_kindOf_17 : decode cX3_kindOf 17 = .ok (.iaload, 1) := by decide +kernel
theorem dX3_kindOf_18 : decode cX3_kindOf 18 = .ok (.goto 4, 3) := by decide +kernel
theorem dX3_kindOf_21 : decode cX3_kindOf 21 = .ok (.iconst (-1), 1) := by decide +kernel
theorem dX3_kindOf_22 : decode cX3_kindOf 22 = .ok (.ireturn, 1) := by decide +kernel
set_option maxRecDepth 20000 in
theorem gd_wsX3_run : wsX3_run.all goodWord = true := by decide +kernel
set_option maxRecDepth 100000 in
theorem ggX3_perform_X3_run : GoodIn wsX3_perform wsX3_run := goodIn_r _ [9, 4, 3, 10, 11, 12, 13, 8, 14, 15, 16, 17, 18, 19, 20, 21, 1, 22, 5, 6, 7, 23, 24, 25, 26, 27] rfl gd_wsX3_run
set_option maxRecDepth 100000 in
theorem gX3_perform_X3_run : GoodIn wsX3_perform (wsV RX3 33 RX3 yX3_run wsX3_run) := goodIn_app (goodIn_r _ [5, 6, 7, 8] rfl (by decide +kernel)) ggX3_perform_X3_run
theorem dX3_perform_0 : decode cX3_perform 0 = .ok (.aload_n 0, 1) := by decide +kernel
theorem dX3_perform_1 : decode cX3_perform 1 = .ok (.iconst 0, 1) := by decide +kernel
theorem dX3_perform_2 : decode cX3_perform 2 = .ok (.putfield 27, 3) := by decide +kernel
theorem dX3_perform_5 : decode cX3_perform 5 = .ok (.iload_n 1, 1) := by decide +kernel
theorem dX3_perform_6 : decode cX3_perform 6 = .ok (.ifCond .lt 20, 3) := by decide +kernel
theorem dX3_perform_9 : decode cX3_perform 9 = .ok (.iload_n 1, 1) := by decide +kernel
theorem dX3_perform_10 : decode cX3_perform 10 = .ok (.aload_n 0, 1) := by decide +kernel
theorem dX3_perform_11 : decode cX3_perform 11 = .ok (.getfield 23, 3) := by decide +kernel
theorem dX3_perform_14 : decode cX3_perform 14 = .ok (.if_icmp .ge 12, 3) := by decide +kernel
theorem dX3_perform_17 : decode cX3_perform 17 = .ok (.iload_n 2, 1) := by decide +kernel
theorem dX3_perform_18 : decode cX3_perform 18 = .ok (.ifCond .lt 8, 3) := by decide +kernel
theorem dX3_perform_21 : decode cX3_perform 21 = .ok (.iload_n 2, 1) := by decide +kernel
theorem dX3_perform_22 : decode cX3_perform 22 = .ok (.iconst 4, 1) := by decide +kernel
theorem dX3_perform_23 : decode cX3_perform 23 = .ok (.if_icmp .lt 5, 3) := by decide +kernel
theorem dX3_perform_26 : decode cX3_perform 26 = .ok (.iconst 0, 1) := by decide +kernel
theorem dX3_perform_27 : decode cX3_perform 27 = .ok (.ireturn, 1) := by decide +kernel
theorem dX3_perform_28 : decode cX3_perform 28 = .ok (.aload_n 0, 1) := by decide +kernel
theorem dX3_perform_29 : decode cX3_perform 29 = .ok (.iload_n 1, 1) := by decide +kernel
theorem dX3_perform_30 : decode cX3_perform 30 = .ok (.putfield 30, 3) := by decide +kernel
theorem dX3_perform_33 : decode cX3_perform 33 = .ok (.aload_n 0, 1) := by decide +kernel
theorem dX3_perform_34 : decode cX3_perform 34 = .ok (.aload_n 0, 1) := by decide +kernel
theorem dX3_perform_35 : decode cX3_perform 35 = .ok (.getfield 13, 3) := by decide +kernel
theorem dX3_perform_38 : decode cX3_perform 38 = .ok (.iload_n 1, 1) := by decide +kernel
theorem dX3_perform_39 : decode cX3_perform 39 = .ok (.iaload, 1) := by decide +kernel
theorem dX3_perform_40 : decode cX3_perform 40 = .ok (.iload_n 2, 1) := by decide +kernel
theorem dX3_perform_41 : decode cX3_perform 41 = .ok (.iload_n 3, 1) := by decide +kernel
theorem dX3_perform_42 : decode cX3_perform 42 = .ok (.iconst 0, 1) := by decide +kernel
theorem dX3_perform_43 : decode cX3_perform 43 = .ok (.invokevirtual 33, 3) := by decide +kernel
theorem dX3_perform_46 : decode cX3_perform 46 = .ok (.ireturn, 1) := by decide +kernel
set_option maxRecDepth 100000 in
theorem ggX3_holderOf_X3_isKind : GoodIn wsX3_holderOf wsX3_isKind := goodIn_r _ [6] rfl gd_wsX3_isKind
set_option maxRecDepth 100000 in
theorem gX3_holderOf_X3_isKind : GoodIn wsX3_holderOf (va_wsS RX3 16 yX3_isKind wsX3_isKind) := goodIn_app (goodIn_r _ [3, 4, 5] rfl (by decide +kernel)) ggX3_holderOf_X3_isKind
theorem dX3_holderOf_0 : decode cX3_holderOf 0 = .ok (.iload_n 0, 1) := by decide +kernel
theorem dX3_holderOf_1 : decode cX3_holderOf 1 = .ok (.istore_n 2, 1) := by decide +kernel
theorem dX3_holderOf_2 : decode cX3_holderOf 2 = .ok (.iconst 0, 1) := by decide +kernel
theorem dX3_holderOf_3 : decode cX3_holderOf 3 = .ok (.istore_n 3, 1) := by decide +kernel
theorem dX3_holderOf_4 : decode cX3_holderOf 4 = .ok (.iload_n 3, 1) := by decide +kernel
theorem dX3_holderOf_5 : decode cX3_holderOf 5 = .ok (.bipush 8, 2) := by decide +kernel
theorem dX3_holderOf_7 : decode cX3_holderOf 7 = .ok (.if_icmp .ge 36, 3) := by decide +kernel
theorem dX3_holderOf_10 : decode cX3_holderOf 10 = .ok (.iload_n 2, 1) := by decide +kernel
theorem dX3_holderOf_11 : decode cX3_holderOf 11 = .ok (.invokestatic 16, 3) := by decide +kernel
theorem dX3_holderOf_14 : decode cX3_holderOf 14 = .ok (.ifCond .eq 29, 3) := by decide +kernel
theorem dX3_holderOf_17 : decode cX3_holderOf 17 = .ok (.getstatic 37, 3) := by decide +kernel
theorem dX3_holderOf_20 : decode cX3_holderOf 20 = .ok (.iload_n 2, 1) := by decide +kernel
theorem dX3_holderOf_21 : decode cX3_holderOf 21 = .ok (.iconst 4, 1) := by decide +kernel
theorem dX3_holderOf_22 : decode cX3_holderOf 22 = .ok (.imul, 1) := by decide +kernel
theorem dX3_holderOf_23 : decode cX3_holderOf 23 = .ok (.iload_n 1, 1) := by decide +kernel
theorem dX3_holderOf_24 : decode cX3_holderOf 24 = .ok (.iadd, 1) := by decide +kernel
theorem dX3_holderOf_25 : decode cX3_holderOf 25 = .ok (.iaload, 1) := by decide +kernel
theorem dX3_holderOf_26 : decode cX3_holderOf 26 = .ok (.ifCond .eq 5, 3) := by decide +kernel
theorem dX3_holderOf_29 : decode cX3_holderOf 29 = .ok (.iload_n 2, 1) := by decide +kernel
theorem dX3_holderOf_30 : decode cX3_holderOf 30 = .ok (.ireturn, 1) := by decide +kernel
theorem dX3_holderOf_31 : decode cX3_holderOf 31 = .ok (.getstatic 20, 3) := by decide +kernel
theorem dX3_holderOf_34 : decode cX3_holderOf 34 = .ok (.iload_n 2, 1) := by decide +kernel
theorem dX3_holderOf_35 : decode cX3_holderOf 35 = .ok (.iaload, 1) := by decide +kernel
theorem dX3_holderOf_36 : decode cX3_holderOf 36 = .ok (.istore_n 2, 1) := by decide +kernel
theorem dX3_holderOf_37 : decode cX3_holderOf 37 = .ok (.iinc 3 1, 3) := by decide +kernel
theorem dX3_holderOf_40 : decode cX3_holderOf 40 = .ok (.goto (-36), 3) := by decide +kernel
theorem dX3_holderOf_43 : decode cX3_holderOf 43 = .ok (.iconst (-1), 1) := by decide +kernel
theorem dX3_holderOf_44 : decode cX3_holderOf 44 = .ok (.ireturn, 1) := by decide +kernel
theorem dX3_begin_0 : decode cX3_begin 0 = .ok (.aload_n 0, 1) := by decide +kernel
theorem dX3_begin_1 : decode cX3_begin 1 = .ok (.getfield 27, 3) := by decide +kernel
theorem dX3_begin_4 : decode cX3_begin 4 = .ok (.bipush 24, 2) := by decide +kernel
theorem dX3_begin_6 : decode cX3_begin 6 = .ok (.if_icmp .ge 13, 3) := by decide +kernel
theorem dX3_begin_9 : decode cX3_begin 9 = .ok (.aload_n 0, 1) := by decide +kernel
theorem dX3_begin_10 : decode cX3_begin 10 = .ok (.getfield 9, 3) := by decide +kernel
theorem dX3_begin_13 : decode cX3_begin 13 = .ok (.aload_n 0, 1) := by decide +kernel
theorem dX3_begin_14 : decode cX3_begin 14 = .ok (.getfield 27, 3) := by decide +kernel
theorem dX3_begin_17 : decode cX3_begin 17 = .ok (.iload_n 1, 1) := by decide +kernel
theorem dX3_begin_18 : decode cX3_begin 18 = .ok (.iastore, 1) := by decide +kernel
theorem dX3_begin_19 : decode cX3_begin 19 = .ok (.aload_n 0, 1) := by decide +kernel
theorem dX3_begin_20 : decode cX3_begin 20 = .ok (.dup, 1) := by decide +kernel
theorem dX3_begin_21 : decode cX3_begin 21 = .ok (.getfield 27, 3) := by decide +kernel
theorem dX3_begin_24 : decode cX3_begin 24 = .ok (.iconst 1, 1) := by decide +kernel
theorem dX3_begin_25 : decode cX3_begin 25 = .ok (.iadd, 1) := by decide +kernel
theorem dX3_begin_26 : decode cX3_begin 26 = .ok (.putfield 27, 3) := by decide +kernel
theorem dX3_begin_29 : decode cX3_begin 29 = .ok (.return_, 1) := by decide +kernel
set_option maxRecDepth 20000 in
theorem gd_wsX3_holderOf : wsX3_holderOf.all goodWord = true := by decide +kernel
set_option maxRecDepth 100000 in
theorem ggX3_run_X3_holderOf : GoodIn wsX3_run wsX3_holderOf := goodIn_r _ [8, 4, 3, 9, 10, 7, 11] rfl gd_wsX3_holderOf
set_option maxRecDepth 100000 in
theorem gX3_run_X3_holderOf : GoodIn wsX3_run (va_wsS RX3 40 yX3_holderOf wsX3_holderOf) := goodIn_app (goodIn_r _ [5, 6, 7] rfl (by decide +kernel)) ggX3_run_X3_holderOf
set_option maxRecDepth 20000 in
theorem gd_wsX3_begin : wsX3_begin.all goodWord = true := by decide +kernel
set_option maxRecDepth 100000 in
theorem ggX3_run_X3_begin : GoodIn wsX3_run wsX3_begin := goodIn_r _ [15, 16, 17, 21, 22, 23, 24, 25] rfl gd_wsX3_begin
set_option maxRecDepth 100000 in
theorem gX3_run_X3_begin : GoodIn wsX3_run (wsV RX3 44 RX3 yX3_begin wsX3_begin) := goodIn_app (goodIn_r _ [12, 13, 14, 7] rfl (by decide +kernel)) ggX3_run_X3_begin
set_option maxRecDepth 100000 in
theorem ggX3_run_X3_run : GoodIn wsX3_run wsX3_run := goodIn_r _ [0, 1, 2, 3, 4, 5, 6, 7, 8, 9, 10, 11, 12, 13, 14, 15, 16, 17, 18, 19, 20, 21, 22, 23, 24, 25] rfl gd_wsX3_run
set_option maxRecDepth 100000 in
theorem gX3_run_X3_run : GoodIn wsX3_run (wsV RX3 33 RX3 yX3_run wsX3_run) := goodIn_app (goodIn_r _ [18, 19, 20, 7] rfl (by decide +kernel)) ggX3_run_X3_run
theorem dX3_run_0 : decode cX3_run 0 = .ok (.iload_n 1, 1) := by decide +kernel
theorem dX3_run_1 : decode cX3_run 1 = .ok (.iload_n 2, 1) := by decide +kernel
theorem dX3_run_2 : decode cX3_run 2 = .ok (.invokestatic 40, 3) := by decide +kernel
theorem dX3_run_5 : decode cX3_run 5 = .ok (.istore 5, 2) := by decide +kernel
theorem dX3_run_7 : decode cX3_run 7 = .ok (.iload 5, 2) := by decide +kernel
theorem dX3_run_9 : decode cX3_run 9 = .ok (.ifCond .lt 10, 3) := by decide +kernel
theorem dX3_run_12 : decode cX3_run 12 = .ok (.iload 4, 2) := by decide +kernel
theorem dX3_run_14 : decode cX3_run 14 = .ok (.bipush 40, 2) := by decide +kernel
theorem dX3_run_16 : decode cX3_run 16 = .ok (.if_icmp .le 5, 3) := by decide +kernel
theorem dX3_run_19 : decode cX3_run 19 = .ok (.iconst 0, 1) := by decide +kernel
theorem dX3_run_20 : decode cX3_run 20 = .ok (.ireturn, 1) := by decide +kernel
theorem dX3_run_21 : decode cX3_run 21 = .ok (.aload_n 0, 1) := by decide +kernel
theorem dX3_run_22 : decode cX3_run 22 = .ok (.getfield 13, 3) := by decide +kernel
theorem dX3_run_25 : decode cX3_run 25 = .ok (.aload_n 0, 1) := by decide +kernel
theorem dX3_run_26 : decode cX3_run 26 = .ok (.getfield 30, 3) := by decide +kernel
theorem dX3_run_29 : decode cX3_run 29 = .ok (.iaload, 1) := by decide +kernel
theorem dX3_run_30 : decode cX3_run 30 = .ok (.istore 6, 2) := by decide +kernel
theorem dX3_run_32 : decode cX3_run 32 = .ok (.getstatic 20, 3) := by decide +kernel
theorem dX3_run_35 : decode cX3_run 35 = .ok (.iload 5, 2) := by decide +kernel
theorem dX3_run_37 : decode cX3_run 37 = .ok (.iaload, 1) := by decide +kernel
theorem dX3_run_38 : decode cX3_run 38 = .ok (.istore 7, 2) := by decide +kernel
theorem dX3_run_40 : decode cX3_run 40 = .ok (.getstatic 37, 3) := by decide +kernel
theorem dX3_run_43 : decode cX3_run 43 = .ok (.iload 5, 2) := by decide +kernel
theorem dX3_run_45 : decode cX3_run 45 = .ok (.iconst 4, 1) := by decide +kernel
theorem dX3_run_46 : decode cX3_run 46 = .ok (.imul, 1) := by decide +kernel
theorem dX3_run_47 : decode cX3_run 47 = .ok (.iload_n 2, 1) := by decide +kernel
theorem dX3_run_48 : decode cX3_run 48 = .ok (.iadd, 1) := by decide +kernel
theorem dX3_run_49 : decode cX3_run 49 = .ok (.iaload, 1) := by decide +kernel
theorem dX3_run_50 : decode cX3_run 50 = .ok (.istore 8, 2) := by decide +kernel
theorem dX3_run_52 : decode cX3_run 52 = .ok (.iload 4, 2) := by decide +kernel
theorem dX3_run_54 : decode cX3_run 54 = .ok (.iconst 1, 1) := by decide +kernel
theorem dX3_run_55 : decode cX3_run 55 = .ok (.iadd, 1) := by decide +kernel
theorem dX3_run_56 : decode cX3_run 56 = .ok (.istore 9, 2) := by decide +kernel
theorem dX3_run_58 : decode cX3_run 58 = .ok (.aload_n 0, 1) := by decide +kernel
theorem dX3_run_59 : decode cX3_run 59 = .ok (.iload 8, 2) := by decide +kernel
theorem dX3_run_61 : decode cX3_run 61 = .ok (.invokevirtual 44, 3) := by decide +kernel
theorem dX3_run_64 : decode cX3_run 64 = .ok (.iload 8, 2) := by decide +kernel
theorem dX3_run_66 : decode cX3_run 66 = .ok (.lookupswitch 297 #[(1, 114), (2, 121), (10, 143), (11, 156), (20, 163), (30, 176), (40, 188), (41, 201), (50, 214), (60, 236), (70, 249), (80, 262), (81, 284)], 114) := by decide +kernel
theorem dX3_run_180 : decode cX3_run 180 = .ok (.iload_n 3, 1) := by decide +kernel
theorem dX3_run_181 : decode cX3_run 181 = .ok (.aload_n 0, 1) := by decide +kernel
theorem dX3_run_182 : decode cX3_run 182 = .ok (.getfield 30, 3) := by decide +kernel
theorem dX3_run_185 : decode cX3_run 185 = .ok (.iadd, 1) := by decide +kernel
theorem dX3_run_186 : decode cX3_run 186 = .ok (.ireturn, 1) := by decide +kernel
theorem dX3_run_187 : decode cX3_run 187 = .ok (.aload_n 0, 1) := by decide +kernel
theorem dX3_run_188 : decode cX3_run 188 = .ok (.iload 6, 2) := by decide +kernel
theorem dX3_run_190 : decode cX3_run 190 = .ok (.iconst 1, 1) := by decide +kernel
theorem dX3_run_191 : decode cX3_run 191 = .ok (.iload_n 3, 1) := by decide +kernel
theorem dX3_run_192 : decode cX3_run 192 = .ok (.iload 9, 2) := by decide +kernel
theorem dX3_run_194 : decode cX3_run 194 = .ok (.invokevirtual 33, 3) := by decide +kernel
theorem dX3_run_197 : decode cX3_run 197 = .ok (.aload_n 0, 1) := by decide +kernel
theorem dX3_run_198 : decode cX3_run 198 = .ok (.iload 6, 2) := by decide +kernel
theorem dX3_run_200 : decode cX3_run 200 = .ok (.iconst 2, 1) := by decide +kernel
theorem dX3_run_201 : decode cX3_run 201 = .ok (.iconst 1, 1) := by decide +kernel
theorem dX3_run_202 : decode cX3_run 202 = .ok (.iload 9, 2) := by decide +kernel
theorem dX3_run_204 : decode cX3_run 204 = .ok (.invokevirtual 33, 3) := by decide +kernel
theorem dX3_run_207 : decode cX3_run 207 = .ok (.isub, 1) := by decide +kernel
theorem dX3_run_208 : decode cX3_run 208 = .ok (.ireturn, 1) := by decide +kernel
theorem dX3_run_209 : decode cX3_run 209 = .ok (.aload_n 0, 1) := by decide +kernel
theorem dX3_run_210 : decode cX3_run 210 = .ok (.iload 6, 2) := by decide +kernel
theorem dX3_run_212 : decode cX3_run 212 = .ok (.iconst 0, 1) := by decide +kernel
theorem dX3_run_213 : decode cX3_run 213 = .ok (.iload_n 3, 1) := by decide +kernel
theorem dX3_run_214 : decode cX3_run 214 = .ok (.iload 9, 2) := by decide +kernel
theorem dX3_run_216 : decode cX3_run 216 = .ok (.invokevirtual 33, 3) := by decide +kernel
theorem dX3_run_219 : decode cX3_run 219 = .ok (.iconst 2, 1) := by decide +kernel
theorem dX3_run_220 : decode cX3_run 220 = .ok (.imul, 1) := by decide +kernel
theorem dX3_run_221 : decode cX3_run 221 = .ok (.ireturn, 1) := by decide +kernel
theorem dX3_run_222 : decode cX3_run 222 = .ok (.iload_n 3, 1) := by decide +kernel
theorem dX3_run_223 : decode cX3_run 223 = .ok (.aload_n 0, 1) := by decide +kernel
theorem dX3_run_224 : decode cX3_run 224 = .ok (.getfield 30, 3) := by decide +kernel
theorem dX3_run_227 : decode cX3_run 227 = .ok (.ixor, 1) := by decide +kernel
theorem dX3_run_228 : decode cX3_run 228 = .ok (.ireturn, 1) := by decide +kernel
theorem dX3_run_229 : decode cX3_run 229 = .ok (.aload_n 0, 1) := by decide +kernel
theorem dX3_run_230 : decode cX3_run 230 = .ok (.iload 7, 2) := by decide +kernel
theorem dX3_run_232 : decode cX3_run 232 = .ok (.iconst 0, 1) := by decide +kernel
theorem dX3_run_233 : decode cX3_run 233 = .ok (.iload_n 3, 1) := by decide +kernel
theorem dX3_run_234 : decode cX3_run 234 = .ok (.iload 9, 2) := by decide +kernel
theorem dX3_run_236 : decode cX3_run 236 = .ok (.invokevirtual 33, 3) := by decide +kernel
theorem dX3_run_239 : decode cX3_run 239 = .ok (.iconst 3, 1) := by decide +kernel
theorem dX3_run_240 : decode cX3_run 240 = .ok (.iadd, 1) := by decide +kernel
theorem dX3_run_241 : decode cX3_run 241 = .ok (.ireturn, 1) := by decide +kernel
theorem dX3_run_242 : decode cX3_run 242 = .ok (.aload_n 0, 1) := by decide +kernel
theorem dX3_run_243 : decode cX3_run 243 = .ok (.iload 7, 2) := by decide +kernel
theorem dX3_run_245 : decode cX3_run 245 = .ok (.iconst 1, 1) := by decide +kernel
theorem dX3_run_246 : decode cX3_run 246 = .ok (.iload_n 3, 1) := by decide +kernel
theorem dX3_run_247 : decode cX3_run 247 = .ok (.iload 9, 2) := by decide +kernel
theorem dX3_run_249 : decode cX3_run 249 = .ok (.invokevirtual 33, 3) := by decide +kernel
theorem dX3_run_252 : decode cX3_run 252 = .ok (.ineg, 1) := by decide +kernel
theorem dX3_run_253 : decode cX3_run 253 = .ok (.ireturn, 1) := by decide +kernel
theorem dX3_run_254 : decode cX3_run 254 = .ok (.aload_n 0, 1) := by decide +kernel
theorem dX3_run_255 : decode cX3_run 255 = .ok (.iload 7, 2) := by decide +kernel
theorem dX3_run_257 : decode cX3_run 257 = .ok (.iconst 2, 1) := by decide +kernel
theorem dX3_run_258 : decode cX3_run 258 = .ok (.iload_n 3, 1) := by decide +kernel
theorem dX3_run_259 : decode cX3_run 259 = .ok (.iload 9, 2) := by decide +kernel
theorem dX3_run_261 : decode cX3_run 261 = .ok (.invokevirtual 33, 3) := by decide +kernel
theorem dX3_run_264 : decode cX3_run 264 = .ok (.iconst 3, 1) := by decide +kernel
theorem dX3_run_265 : decode cX3_run 265 = .ok (.imul, 1) := by decide +kernel
theorem dX3_run_266 : decode cX3_run 266 = .ok (.ireturn, 1) := by decide +kernel
theorem dX3_run_267 : decode cX3_run 267 = .ok (.aload_n 0, 1) := by decide +kernel
theorem dX3_run_268 : decode cX3_run 268 = .ok (.iload 7, 2) := by decide +kernel
theorem dX3_run_270 : decode cX3_run 270 = .ok (.iconst 1, 1) := by decide +kernel
theorem dX3_run_271 : decode cX3_run 271 = .ok (.iload_n 3, 1) := by decide +kernel
theorem dX3_run_272 : decode cX3_run 272 = .ok (.iconst 1, 1) := by decide +kernel
theorem dX3_run_273 : decode cX3_run 273 = .ok (.iadd, 1) := by decide +kernel
theorem dX3_run_274 : decode cX3_run 274 = .ok (.iload 9, 2) := by decide +kernel
theorem dX3_run_276 : decode cX3_run 276 = .ok (.invokevirtual 33, 3) := by decide +kernel
theorem dX3_run_279 : decode cX3_run 279 = .ok (.ireturn, 1) := by decide +kernel
theorem dX3_run_280 : decode cX3_run 280 = .ok (.aload_n 0, 1) := by decide +kernel
theorem dX3_run_281 : decode cX3_run 281 = .ok (.iload 7, 2) := by decide +kernel
theorem dX3_run_283 : decode cX3_run 283 = .ok (.iconst 2, 1) := by decide +kernel
theorem dX3_run_284 : decode cX3_run 284 = .ok (.iload_n 3, 1) := by decide +kernel
theorem dX3_run_285 : decode cX3_run 285 = .ok (.iload 9, 2) := by decide +kernel
theorem dX3_run_287 : decode cX3_run 287 = .ok (.invokevirtual 33, 3) := by decide +kernel
theorem dX3_run_290 : decode cX3_run 290 = .ok (.aload_n 0, 1) := by decide +kernel
theorem dX3_run_291 : decode cX3_run 291 = .ok (.iload 6, 2) := by decide +kernel
theorem dX3_run_293 : decode cX3_run 293 = .ok (.iconst 0, 1) := by decide +kernel
theorem dX3_run_294 : decode cX3_run 294 = .ok (.iconst 2, 1) := by decide +kernel
theorem dX3_run_295 : decode cX3_run 295 = .ok (.iload 9, 2) := by decide +kernel
theorem dX3_run_297 : decode cX3_run 297 = .ok (.invokevirtual 33, 3) := by decide +kernel
theorem dX3_run_300 : decode cX3_run 300 = .ok (.isub, 1) := by decide +kernel
theorem dX3_run_301 : decode cX3_run 301 = .ok (.ireturn, 1) := by decide +kernel
theorem dX3_run_302 : decode cX3_run 302 = .ok (.aload_n 0, 1) := by decide +kernel
theorem dX3_run_303 : decode cX3_run 303 = .ok (.iload 7, 2) := by decide +kernel
theorem dX3_run_305 : decode cX3_run 305 = .ok (.iconst 3, 1) := by decide +kernel
theorem dX3_run_306 : decode cX3_run 306 = .ok (.iload_n 3, 1) := by decide +kernel
theorem dX3_run_307 : decode cX3_run 307 = .ok (.iload 9, 2) := by decide +kernel
theorem dX3_run_309 : decode cX3_run 309 = .ok (.invokevirtual 33, 3) := by decide +kernel
theorem dX3_run_312 : decode cX3_run 312 = .ok (.iconst 5, 1) := by decide +kernel
theorem dX3_run_313 : decode cX3_run 313 = .ok (.ixor, 1) := by decide +kernel
theorem dX3_run_314 : decode cX3_run 314 = .ok (.ireturn, 1) := by decide +kernel
theorem dX3_run_315 : decode cX3_run 315 = .ok (.aload_n 0, 1) := by decide +kernel
theorem dX3_run_316 : decode cX3_run 316 = .ok (.iload 7, 2) := by decide +kernel
theorem dX3_run_318 : decode cX3_run 318 = .ok (.iconst 0, 1) := by decide +kernel
theorem dX3_run_319 : decode cX3_run 319 = .ok (.iload_n 3, 1) := by decide +kernel
theorem dX3_run_320 : decode cX3_run 320 = .ok (.iload 9, 2) := by decide +kernel
theorem dX3_run_322 : decode cX3_run 322 = .ok (.invokevirtual 33, 3) := by decide +kernel
theorem dX3_run_325 : decode cX3_run 325 = .ok (.iconst 2, 1) := by decide +kernel
theorem dX3_run_326 : decode cX3_run 326 = .ok (.imul, 1) := by decide +kernel
theorem dX3_run_327 : decode cX3_run 327 = .ok (.ireturn, 1) := by decide +kernel
theorem dX3_run_328 : decode cX3_run 328 = .ok (.aload_n 0, 1) := by decide +kernel
theorem dX3_run_329 : decode cX3_run 329 = .ok (.iload 7, 2) := by decide +kernel
theorem dX3_run_331 : decode cX3_run 331 = .ok (.iconst 1, 1) := by decide +kernel
theorem dX3_run_332 : decode cX3_run 332 = .ok (.iload_n 3, 1) := by decide +kernel
theorem dX3_run_333 : decode cX3_run 333 = .ok (.iload 9, 2) := by decide +kernel
theorem dX3_run_335 : decode cX3_run 335 = .ok (.invokevirtual 33, 3) := by decide +kernel
theorem dX3_run_338 : decode cX3_run 338 = .ok (.aload_n 0, 1) := by decide +kernel
theorem dX3_run_339 : decode cX3_run 339 = .ok (.iload 6, 2) := by decide +kernel
theorem dX3_run_341 : decode cX3_run 341 = .ok (.iconst 2, 1) := by decide +kernel
theorem dX3_run_342 : decode cX3_run 342 = .ok (.iconst 2, 1) := by decide +kernel
theorem dX3_run_343 : decode cX3_run 343 = .ok (.iload 9, 2) := by decide +kernel
theorem dX3_run_345 : decode cX3_run 345 = .ok (.invokevirtual 33, 3) := by decide +kernel
theorem dX3_run_348 : decode cX3_run 348 = .ok (.iadd, 1) := by decide +kernel
theorem dX3_run_349 : decode cX3_run 349 = .ok (.ireturn, 1) := by decide +kernel
theorem dX3_run_350 : decode cX3_run 350 = .ok (.aload_n 0, 1) := by decide +kernel
theorem dX3_run_351 : decode cX3_run 351 = .ok (.iload 7, 2) := by decide +kernel
theorem dX3_run_353 : decode cX3_run 353 = .ok (.iconst 3, 1) := by decide +kernel
theorem dX3_run_354 : decode cX3_run 354 = .ok (.iload_n 3, 1) := by decide +kernel
theorem dX3_run_355 : decode cX3_run 355 = .ok (.iload 9, 2) := by decide +kernel
theorem dX3_run_357 : decode cX3_run 357 = .ok (.invokevirtual 33, 3) := by decide +kernel
theorem dX3_run_360 : decode cX3_run 360 = .ok (.iconst 1, 1) := by decide +kernel
theorem dX3_run_361 : decode cX3_run 361 = .ok (.isub, 1) := by decide +kernel
theorem dX3_run_362 : decode cX3_run 362 = .ok (.ireturn, 1) := by decide +kernel
theorem dX3_run_363 : decode cX3_run 363 = .ok (.iconst 0, 1) := by decide +kernel
theorem dX3_run_364 : decode cX3_run 364 = .ok (.ireturn, 1) := by decide +kernel
theorem dX4_init_0 : decode cX4_init 0 = .ok (.aload_n 0, 1) := by decide +kernel
theorem dX4_init_1 : decode cX4_init 1 = .ok (.invokespecial 1, 3) := by decide +kernel
theorem dX4_init_4 : decode cX4_init 4 = .ok (.aload_n 0, 1) := by decide +kernel
theorem dX4_init_5 : decode cX4_init 5 = .ok (.bipush 60, 2) := by decide +kernel
theorem dX4_init_7 : decode cX4_init 7 = .ok (.newarray .long, 2) := by decide +kernel
theorem dX4_init_9 : decode cX4_init 9 = .ok (.putfield 9, 3) := by decide +kernel
theorem dX4_init_12 : decode cX4_init 12 = .ok (.aload_n 0, 1) := by decide +kernel
theorem dX4_init_13 : decode cX4_init 13 = .ok (.iconst (-1), 1) := by decide +kernel
theorem dX4_init_14 : decode cX4_init 14 = .ok (.putfield 13, 3) := by decide +kernel
theorem dX4_init_17 : decode cX4_init 17 = .ok (.aload_n 0, 1) := by decide +kernel
theorem dX4_init_18 : decode cX4_init 18 = .ok (.iconst (-1), 1) := by decide +kernel
theorem dX4_init_19 : decode cX4_init 19 = .ok (.putfield 17, 3) := by decide +kernel
theorem dX4_init_22 : decode cX4_init 22 = .ok (.return_, 1) := by decide +kernel
theorem dX4_holdsNothing_0 : decode cX4_holdsNothing 0 = .ok (.aload_n 0, 1) := by decide +kernel
theorem dX4_holdsNothing_1 : decode cX4_holdsNothing 1 = .ok (.getfield 13, 3) := by decide +kernel
theorem dX4_holdsNothing_4 : decode cX4_holdsNothing 4 = .ok (.ifCond .ge 14, 3) := by decide +kernel
theorem dX4_holdsNothing_7 : decode cX4_holdsNothing 7 = .ok (.aload_n 0, 1) := by decide +kernel
theorem dX4_holdsNothing_8 : decode cX4_holdsNothing 8 = .ok (.getfield 17, 3) := by decide +kernel
theorem dX4_holdsNothing_11 : decode cX4_holdsNothing 11 = .ok (.ifCond .ge 7, 3) := by decide +kernel
theorem dX4_holdsNothing_14 : decode cX4_holdsNothing 14 = .ok (.iconst 1, 1) := by decide +kernel
theorem dX4_holdsNothing_15 : decode cX4_holdsNothing 15 = .ok (.goto 4, 3) := by decide +kernel
theorem dX4_holdsNothing_18 : decode cX4_holdsNothing 18 = .ok (.iconst 0, 1) := by decide +kernel
theorem dX4_holdsNothing_19 : decode cX4_holdsNothing 19 = .ok (.ireturn, 1) := by decide +kernel
theorem dX4_holdsRow_0 : decode cX4_holdsRow 0 = .ok (.aload_n 0, 1) := by decide +kernel
theorem dX4_holdsRow_1 : decode cX4_holdsRow 1 = .ok (.getfield 13, 3) := by decide +kernel
theorem dX4_holdsRow_4 : decode cX4_holdsRow 4 = .ok (.ifCond .lt 7, 3) := by decide +kernel
theorem dX4_holdsRow_7 : decode cX4_holdsRow 7 = .ok (.iconst 1, 1) := by decide +kernel
theorem dX4_holdsRow_8 : decode cX4_holdsRow 8 = .ok (.goto 4, 3) := by decide +kernel
theorem dX4_holdsRow_11 : decode cX4_holdsRow 11 = .ok (.iconst 0, 1) := by decide +kernel
theorem dX4_holdsRow_12 : decode cX4_holdsRow 12 = .ok (.ireturn, 1) := by decide +kernel
theorem dX4_holdsRowOf_0 : decode cX4_holdsRowOf 0 = .ok (.aload_n 0, 1) := by decide +kernel
theorem dX4_holdsRowOf_1 : decode cX4_holdsRowOf 1 = .ok (.getfield 13, 3) := by decide +kernel
theorem dX4_holdsRowOf_4 : decode cX4_holdsRowOf 4 = .ok (.ifCond .lt 15, 3) := by decide +kernel
theorem dX4_holdsRowOf_7 : decode cX4_holdsRowOf 7 = .ok (.aload_n 0, 1) := by decide +kernel
theorem dX4_holdsRowOf_8 : decode cX4_holdsRowOf 8 = .ok (.getfield 13, 3) := by decide +kernel
theorem dX4_holdsRowOf_11 : decode cX4_holdsRowOf 11 = .ok (.iload_n 1, 1) := by decide +kernel
theorem dX4_holdsRowOf_12 : decode cX4_holdsRowOf 12 = .ok (.if_icmp .ne 7, 3) := by decide +kernel
theorem dX4_holdsRowOf_15 : decode cX4_holdsRowOf 15 = .ok (.iconst 1, 1) := by decide +kernel
theorem dX4_holdsRowOf_16 : decode cX4_holdsRowOf 16 = .ok (.goto 4, 3) := by decide +kernel
theorem dX4_holdsRowOf_19 : decode cX4_holdsRowOf 19 = .ok (.iconst 0, 1) := by decide +kernel
theorem dX4_holdsRowOf_20 : decode cX4_holdsRowOf 20 = .ok (.ireturn, 1) := by decide +kernel
theorem dX4_hasPlaces_0 : decode cX4_hasPlaces 0 = .ok (.iload_n 1, 1) := by decide +kernel
theorem dX4_hasPlaces_1 : decode cX4_hasPlaces 1 = .ok (.ifCond .lt 29, 3) := by decide +kernel
theorem dX4_hasPlaces_4 : decode cX4_hasPlaces 4 = .ok (.iload_n 2, 1) := by decide +kernel
theorem dX4_hasPlaces_5 : decode cX4_hasPlaces 5 = .ok (.ifCond .lt 25, 3) := by decide +kernel
theorem dX4_hasPlaces_8 : decode cX4_hasPlaces 8 = .ok (.iload_n 1, 1) := by decide +kernel
theorem dX4_hasPlaces_9 : decode cX4_hasPlaces 9 = .ok (.aload_n 0, 1) := by decide +kernel
theorem dX4_hasPlaces_10 : decode cX4_hasPlaces 10 = .ok (.getfield 20, 3) := by decide +kernel
theorem dX4_hasPlaces_13 : decode cX4_hasPlaces 13 = .ok (.if_icmp .gt 17, 3) := by decide +kernel
theorem dX4_hasPlaces_16 : decode cX4_hasPlaces 16 = .ok (.iload_n 2, 1) := by decide +kernel
theorem dX4_hasPlaces_17 : decode cX4_hasPlaces 17 = .ok (.aload_n 0, 1) := by decide +kernel
theorem dX4_hasPlaces_18 : decode cX4_hasPlaces 18 = .ok (.getfield 20, 3) := by decide +kernel
theorem dX4_hasPlaces_21 : decode cX4_hasPlaces 21 = .ok (.iload_n 1, 1) := by decide +kernel
theorem dX4_hasPlaces_22 : decode cX4_hasPlaces 22 = .ok (.isub, 1) := by decide +kernel
theorem dX4_hasPlaces_23 : decode cX4_hasPlaces 23 = .ok (.if_icmp .gt 7, 3) := by decide +kernel
theorem dX4_hasPlaces_26 : decode cX4_hasPlaces 26 = .ok (.iconst 1, 1) := by decide +kernel
theorem dX4_hasPlaces_27 : decode cX4_hasPlaces 27 = .ok (.goto 4, 3) := by decide +kernel
theorem dX4_hasPlaces_30 : decode cX4_hasPlaces 30 = .ok (.iconst 0, 1) := by decide +kernel
theorem dX4_hasPlaces_31 : decode cX4_hasPlaces 31 = .ok (.ireturn, 1) := by decide +kernel
theorem dX4_holdRelay_0 : decode cX4_holdRelay 0 = .ok (.aload_n 0, 1) := by decide +kernel
theorem dX4_holdRelay_1 : decode cX4_holdRelay 1 = .ok (.iload_n 1, 1) := by decide +kernel
theorem dX4_holdRelay_2 : decode cX4_holdRelay 2 = .ok (.putfield 17, 3) := by decide +kernel
theorem dX4_holdRelay_5 : decode cX4_holdRelay 5 = .ok (.aload_n 0, 1) := by decide +kernel
theorem dX4_holdRelay_6 : decode cX4_holdRelay 6 = .ok (.iconst (-1), 1) := by decide +kernel
theorem dX4_holdRelay_7 : decode cX4_holdRelay 7 = .ok (.putfield 13, 3) := by decide +kernel
theorem dX4_holdRelay_10 : decode cX4_holdRelay 10 = .ok (.aload_n 0, 1) := by decide +kernel
theorem dX4_holdRelay_11 : decode cX4_holdRelay 11 = .ok (.iconst 0, 1) := by decide +kernel
theorem dX4_holdRelay_12 : decode cX4_holdRelay 12 = .ok (.putfield 20, 3) := by decide +kernel
theorem dX4_holdRelay_15 : decode cX4_holdRelay 15 = .ok (.return_, 1) := by decide +kernel
set_option maxRecDepth 20000 in
theorem gd_wsJ7_fill_d0a16 : wsJ7_fill_d0a16.all goodWord = true := by decide +kernel
set_option maxRecDepth 100000 in
theorem ggX4_holdRow_J7_fill_d0a16 : GoodIn wsX4_holdRow wsJ7_fill_d0a16 := goodIn_r _ [8] rfl gd_wsJ7_fill_d0a16
set_option maxRecDepth 100000 in
theorem gX4_holdRow_J7_fill_d0a16 : GoodIn wsX4_holdRow (va_wsS RX4 23 yJ7_fill_d0a16 wsJ7_fill_d0a16) := goodIn_app (goodIn_r _ [5, 6, 7] rfl (by decide +kernel)) ggX4_holdRow_J7_fill_d0a16
theorem dX4_holdRow_0 : decode cX4_holdRow 0 = .ok (.aload_n 0, 1) := by decide +kernel
theorem dX4_holdRow_1 : decode cX4_holdRow 1 = .ok (.iconst (-1), 1) := by decide +kernel
theorem dX4_holdRow_2 : decode cX4_holdRow 2 = .ok (.putfield 17, 3) := by decide +kernel
theorem dX4_holdRow_5 : decode cX4_holdRow 5 = .ok (.aload_n 0, 1) := by decide +kernel
theorem dX4_holdRow_6 : decode cX4_holdRow 6 = .ok (.iload_n 1, 1) := by decide +kernel
theorem dX4_holdRow_7 : decode cX4_holdRow 7 = .ok (.putfield 13, 3) := by decide +kernel
theorem dX4_holdRow_10 : decode cX4_holdRow 10 = .ok (.aload_n 0, 1) := by decide +kernel
theorem dX4_holdRow_11 : decode cX4_holdRow 11 = .ok (.iload_n 2, 1) := by decide +kernel
theorem dX4_holdRow_12 : decode cX4_holdRow 12 = .ok (.putfield 20, 3) := by decide +kernel
theorem dX4_holdRow_15 : decode cX4_holdRow 15 = .ok (.aload_n 0, 1) := by decide +kernel
theorem dX4_holdRow_16 : decode cX4_holdRow 16 = .ok (.getfield 9, 3) := by decide +kernel
theorem dX4_holdRow_19 : decode cX4_holdRow 19 = .ok (.lconst 0, 1) := by decide +kernel
theorem dX4_holdRow_20 : decode cX4_holdRow 20 = .ok (.invokestatic 23, 3) := by decide +kernel
theorem dX4_holdRow_23 : decode cX4_holdRow 23 = .ok (.return_, 1) := by decide +kernel
theorem dX4_lay_0 : decode cX4_lay 0 = .ok (.aload_n 0, 1) := by decide +kernel
theorem dX4_lay_1 : decode cX4_lay 1 = .ok (.getfield 13, 3) := by decide +kernel
theorem dX4_lay_4 : decode cX4_lay 4 = .ok (.tableswitch 94 0 4 #[36, 49, 62, 94, 74], 36) := by decide +kernel
theorem dX4_lay_40 : decode cX4_lay 40 = .ok (.aload_n 0, 1) := by decide +kernel
theorem dX4_lay_41 : decode cX4_lay 41 = .ok (.getfield 9, 3) := by decide +kernel
theorem dX4_lay_44 : decode cX4_lay 44 = .ok (.iload_n 1, 1) := by decide +kernel
theorem dX4_lay_45 : decode cX4_lay 45 = .ok (.lload_n 2, 1) := by decide +kernel
theorem dX4_lay_46 : decode cX4_lay 46 = .ok (.l2i, 1) := by decide +kernel
theorem dX4_lay_47 : decode cX4_lay 47 = .ok (.i2b, 1) := by decide +kernel
theorem dX4_lay_48 : decode cX4_lay 48 = .ok (.i2l, 1) := by decide +kernel
theorem dX4_lay_49 : decode cX4_lay 49 = .ok (.lastore, 1) := by decide +kernel
theorem dX4_lay_50 : decode cX4_lay 50 = .ok (.goto 55, 3) := by decide +kernel
theorem dX4_lay_53 : decode cX4_lay 53 = .ok (.aload_n 0, 1) := by decide +kernel
theorem dX4_lay_54 : decode cX4_lay 54 = .ok (.getfield 9, 3) := by decide +kernel
theorem dX4_lay_57 : decode cX4_lay 57 = .ok (.iload_n 1, 1) := by decide +kernel
theorem dX4_lay_58 : decode cX4_lay 58 = .ok (.lload_n 2, 1) := by decide +kernel
theorem dX4_lay_59 : decode cX4_lay 59 = .ok (.l2i, 1) := by decide +kernel
theorem dX4_lay_60 : decode cX4_lay 60 = .ok (.i2s, 1) := by decide +kernel
theorem dX4_lay_61 : decode cX4_lay 61 = .ok (.i2l, 1) := by decide +kernel
theorem dX4_lay_62 : decode cX4_lay 62 = .ok (.lastore, 1) := by decide +kernel
theorem dX4_lay_63 : decode cX4_lay 63 = .ok (.goto 42, 3) := by decide +kernel
theorem dX4_lay_66 : decode cX4_lay 66 = .ok (.aload_n 0, 1) := by decide +kernel
theorem dX4_lay_67 : decode cX4_lay 67 = .ok (.getfield 9, 3) := by decide +kernel
theorem dX4_lay_70 : decode cX4_lay 70 = .ok (.iload_n 1, 1) := by decide +kernel
theorem dX4_lay_71 : decode cX4_lay 71 = .ok (.lload_n 2, 1) := by decide +kernel
theorem dX4_lay_72 : decode cX4_lay 72 = .ok (.l2i, 1) := by decide +kernel
theorem dX4_lay_73 : decode cX4_lay 73 = .ok (.i2l, 1) := by decide +kernel
theorem dX4_lay_74 : decode cX4_lay 74 = .ok (.lastore, 1) := by decide +kernel
theorem dX4_lay_75 : decode cX4_lay 75 = .ok (.goto 30, 3) := by decide +kernel
theorem dX4_lay_78 : decode cX4_lay 78 = .ok (.aload_n 0, 1) := by decide +kernel
theorem dX4_lay_79 : decode cX4_lay 79 = .ok (.getfield 9, 3) := by decide +kernel
theorem dX4_lay_82 : decode cX4_lay 82 = .ok (.iload_n 1, 1) := by decide +kernel
theorem dX4_lay_83 : decode cX4_lay 83 = .ok (.lload_n 2, 1) := by decide +kernel
theorem dX4_lay_84 : decode cX4_lay 84 = .ok (.lconst 0, 1) := by decide +kernel
theorem dX4_lay_85 : decode cX4_lay 85 = .ok (.lcmp, 1) := by decide +kernel
theorem dX4_lay_86 : decode cX4_lay 86 = .ok (.ifCond .eq 7, 3) := by decide +kernel
theorem dX4_lay_89 : decode cX4_lay 89 = .ok (.lconst 1, 1) := by decide +kernel
theorem dX4_lay_90 : decode cX4_lay 90 = .ok (.goto 4, 3) := by decide +kernel
theorem dX4_lay_93 : decode cX4_lay 93 = .ok (.lconst 0, 1) := by decide +kernel
theorem dX4_lay_94 : decode cX4_lay 94 = .ok (.lastore, 1) := by decide +kernel
theorem dX4_lay_95 : decode cX4_lay 95 = .ok (.goto 10, 3) := by decide +kernel
theorem dX4_lay_98 : decode cX4_lay 98 = .ok (.aload_n 0, 1) := by decide +kernel
theorem dX4_lay_99 : decode cX4_lay 99 = .ok (.getfield 9, 3) := by decide +kernel
theorem dX4_lay_102 : decode cX4_lay 102 = .ok (.iload_n 1, 1) := by decide +kernel
theorem dX4_lay_103 : decode cX4_lay 103 = .ok (.lload_n 2, 1) := by decide +kernel
theorem dX4_lay_104 : decode cX4_lay 104 = .ok (.lastore, 1) := by decide +kernel
theorem dX4_lay_105 : decode cX4_lay 105 = .ok (.return_, 1) := by decide +kernel
theorem dX5_init_0 : decode cX5_init 0 = .ok (.aload_n 0, 1) := by decide +kernel
theorem dX5_init_1 : decode cX5_init 1 = .ok (.invokespecial 5, 3) := by decide +kernel
theorem dX5_init_4 : decode cX5_init 4 = .ok (.aload_n 0, 1) := by decide +kernel
theorem dX5_init_5 : decode cX5_init 5 = .ok (.bipush 7, 2) := by decide +kernel
theorem dX5_init_7 : decode cX5_init 7 = .ok (.newarray .int, 2) := by decide +kernel
theorem dX5_init_9 : decode cX5_init 9 = .ok (.putfield 11, 3) := by decide +kernel
theorem dX5_init_12 : decode cX5_init 12 = .ok (.aload_n 0, 1) := by decide +kernel
theorem dX5_init_13 : decode cX5_init 13 = .ok (.bipush 7, 2) := by decide +kernel
theorem dX5_init_15 : decode cX5_init 15 = .ok (.newarray .int, 2) := by decide +kernel
theorem dX5_init_17 : decode cX5_init 17 = .ok (.putfield 15, 3) := by decide +kernel
theorem dX5_init_20 : decode cX5_init 20 = .ok (.aload_n 0, 1) := by decide +kernel
theorem dX5_init_21 : decode cX5_init 21 = .ok (.bipush 7, 2) := by decide +kernel
theorem dX5_init_23 : decode cX5_init 23 = .ok (.newarray .int, 2) := by decide +kernel
theorem dX5_init_25 : decode cX5_init 25 = .ok (.putfield 18, 3) := by decide +kernel
theorem dX5_init_28 : decode cX5_init 28 = .ok (.aload_n 0, 1) := by decide +kernel
theorem dX5_init_29 : decode cX5_init 29 = .ok (.bipush 30, 2) := by decide +kernel
theorem dX5_init_31 : decode cX5_init 31 = .ok (.putfield 21, 3) := by decide +kernel
theorem dX5_init_34 : decode cX5_init 34 = .ok (.aload_n 0, 1) := by decide +kernel
theorem dX5_init_35 : decode cX5_init 35 = .ok (.sipush 3024, 3) := by decide +kernel
theorem dX5_init_38 : decode cX5_init 38 = .ok (.newarray .byte, 2) := by decide +kernel
theorem dX5_init_40 : decode cX5_init 40 = .ok (.putfield 25, 3) := by decide +kernel
theorem dX5_init_43 : decode cX5_init 43 = .ok (.aload_n 0, 1) := by decide +kernel
theorem dX5_init_44 : decode cX5_init 44 = .ok (.bipush 7, 2) := by decide +kernel
theorem dX5_init_46 : decode cX5_init 46 = .ok (.newarray .int, 2) := by decide +kernel
theorem dX5_init_48 : decode cX5_init 48 = .ok (.putfield 29, 3) := by decide +kernel
theorem dX5_init_51 : decode cX5_init 51 = .ok (.aload_n 0, 1) := by decide +kernel
theorem dX5_init_52 : decode cX5_init 52 = .ok (.aload_n 1, 1) := by decide +kernel
theorem dX5_init_53 : decode cX5_init 53 = .ok (.putfield 32, 3) := by decide +kernel
theorem dX5_init_56 : decode cX5_init 56 = .ok (.return_, 1) := by decide +kernel
theorem dX5_isWorld_0 : decode cX5_isWorld 0 = .ok (.iload_n 0, 1) := by decide +kernel
theorem dX5_isWorld_1 : decode cX5_isWorld 1 = .ok (.iconst 1, 1) := by decide +kernel
theorem dX5_isWorld_2 : decode cX5_isWorld 2 = .ok (.if_icmp .lt 33, 3) := by decide +kernel
theorem dX5_isWorld_5 : decode cX5_isWorld 5 = .ok (.iload_n 0, 1) := by decide +kernel
theorem dX5_isWorld_6 : decode cX5_isWorld 6 = .ok (.bipush 12, 2) := by decide +kernel
theorem dX5_isWorld_8 : decode cX5_isWorld 8 = .ok (.if_icmp .gt 27, 3) := by decide +kernel
theorem dX5_isWorld_11 : decode cX5_isWorld 11 = .ok (.iload_n 1, 1) := by decide +kernel
theorem dX5_isWorld_12 : decode cX5_isWorld 12 = .ok (.ifCond .lt 23, 3) := by decide +kernel
theorem dX5_isWorld_15 : decode cX5_isWorld 15 = .ok (.iload_n 1, 1) := by decide +kernel
theorem dX5_isWorld_16 : decode cX5_isWorld 16 = .ok (.iload_n 0, 1) := by decide +kernel
theorem dX5_isWorld_17 : decode cX5_isWorld 17 = .ok (.if_icmp .ge 18, 3) := by decide +kernel
theorem dX5_isWorld_20 : decode cX5_isWorld 20 = .ok (.iload_n 2, 1) := by decide +kernel
theorem dX5_isWorld_21 : decode cX5_isWorld 21 = .ok (.iconst 1, 1) := by decide +kernel
theorem dX5_isWorld_22 : decode cX5_isWorld 22 = .ok (.if_icmp .lt 13, 3) := by decide +kernel
theorem dX5_isWorld_25 : decode cX5_isWorld 25 = .ok (.iload_n 2, 1) := by decide +kernel
theorem dX5_isWorld_26 : decode cX5_isWorld 26 = .ok (.bipush 9, 2) := by decide +kernel
theorem dX5_isWorld_28 : decode cX5_isWorld 28 = .ok (.if_icmp .gt 7, 3) := by decide +kernel
theorem dX5_isWorld_31 : decode cX5_isWorld 31 = .ok (.iconst 1, 1) := by decide +kernel
theorem dX5_isWorld_32 : decode cX5_isWorld 32 = .ok (.goto 4, 3) := by decide +kernel
theorem dX5_isWorld_35 : decode cX5_isWorld 35 = .ok (.iconst 0, 1) := by decide +kernel
theorem dX5_isWorld_36 : decode cX5_isWorld 36 = .ok (.ireturn, 1) := by decide +kernel
set_option maxRecDepth 20000 in
theorem gd_wsX5_forgetWorld : wsX5_forgetWorld.all goodWord = true := by decide +kernel
set_option maxRecDepth 100000 in
theorem ggX5_add_X5_forgetWorld : GoodIn wsX5_add wsX5_forgetWorld := goodIn_r _ [9, 10, 11, 12, 13, 14, 15, 16, 8, 17, 18, 19, 20, 21, 22, 23, 24, 25, 26, 27, 28, 29] rfl gd_wsX5_forgetWorld
set_option maxRecDepth 100000 in
theorem gX5_add_X5_forgetWorld : GoodIn wsX5_add (wsV RX5 39 RX5 yX5_forgetWorld wsX5_forgetWorld) := goodIn_app (goodIn_r _ [5, 6, 7, 8] rfl (by decide +kernel)) ggX5_add_X5_forgetWorld
theorem dX5_add_0 : decode cX5_add 0 = .ok (.aload_n 0, 1) := by decide +kernel
theorem dX5_add_1 : decode cX5_add 1 = .ok (.getfield 36, 3) := by decide +kernel
theorem dX5_add_4 : decode cX5_add 4 = .ok (.bipush 7, 2) := by decide +kernel
theorem dX5_add_6 : decode cX5_add 6 = .ok (.if_icmp .lt 6, 3) := by decide +kernel
theorem dX5_add_9 : decode cX5_add 9 = .ok (.bipush (-3), 2) := by decide +kernel
theorem dX5_add_11 : decode cX5_add 11 = .ok (.ireturn, 1) := by decide +kernel
theorem dX5_add_12 : decode cX5_add 12 = .ok (.aload_n 0, 1) := by decide +kernel
theorem dX5_add_13 : decode cX5_add 13 = .ok (.getfield 11, 3) := by decide +kernel
theorem dX5_add_16 : decode cX5_add 16 = .ok (.aload_n 0, 1) := by decide +kernel
theorem dX5_add_17 : decode cX5_add 17 = .ok (.getfield 36, 3) := by decide +kernel
theorem dX5_add_20 : decode cX5_add 20 = .ok (.iload_n 1, 1) := by decide +kernel
theorem dX5_add_21 : decode cX5_add 21 = .ok (.iastore, 1) := by decide +kernel
theorem dX5_add_22 : decode cX5_add 22 = .ok (.aload_n 0, 1) := by decide +kernel
theorem dX5_add_23 : decode cX5_add 23 = .ok (.getfield 15, 3) := by decide +kernel
theorem dX5_add_26 : decode cX5_add 26 = .ok (.aload_n 0, 1) := by decide +kernel
theorem dX5_add_27 : decode cX5_add 27 = .ok (.getfield 36, 3) := by decide +kernel
theorem dX5_add_30 : decode cX5_add 30 = .ok (.iload_n 2, 1) := by decide +kernel
theorem dX5_add_31 : decode cX5_add 31 = .ok (.iastore, 1) := by decide +kernel
theorem dX5_add_32 : decode cX5_add 32 = .ok (.aload_n 0, 1) := by decide +kernel
theorem dX5_add_33 : decode cX5_add 33 = .ok (.getfield 18, 3) := by decide +kernel
theorem dX5_add_36 : decode cX5_add 36 = .ok (.aload_n 0, 1) := by decide +kernel
theorem dX5_add_37 : decode cX5_add 37 = .ok (.getfield 36, 3) := by decide +kernel
theorem dX5_add_40 : decode cX5_add 40 = .ok (.iload_n 3, 1) := by decide +kernel
theorem dX5_add_41 : decode cX5_add 41 = .ok (.iastore, 1) := by decide +kernel
theorem dX5_add_42 : decode cX5_add 42 = .ok (.aload_n 0, 1) := by decide +kernel
theorem dX5_add_43 : decode cX5_add 43 = .ok (.aload_n 0, 1) := by decide +kernel
theorem dX5_add_44 : decode cX5_add 44 = .ok (.getfield 36, 3) := by decide +kernel
theorem dX5_add_47 : decode cX5_add 47 = .ok (.invokevirtual 39, 3) := by decide +kernel
theorem dX5_add_50 : decode cX5_add 50 = .ok (.aload_n 0, 1) := by decide +kernel
theorem dX5_add_51 : decode cX5_add 51 = .ok (.dup, 1) := by decide +kernel
theorem dX5_add_52 : decode cX5_add 52 = .ok (.getfield 36, 3) := by decide +kernel
theorem dX5_add_55 : decode cX5_add 55 = .ok (.iconst 1, 1) := by decide +kernel
theorem dX5_add_56 : decode cX5_add 56 = .ok (.iadd, 1) := by decide +kernel
theorem dX5_add_57 : decode cX5_add 57 = .ok (.putfield 36, 3) := by decide +kernel
theorem dX5_add_60 : decode cX5_add 60 = .ok (.aload_n 0, 1) := by decide +kernel
theorem dX5_add_61 : decode cX5_add 61 = .ok (.getfield 36, 3) := by decide +kernel
theorem dX5_add_64 : decode cX5_add 64 = .ok (.iconst 1, 1) := by decide +kernel
theorem dX5_add_65 : decode cX5_add 65 = .ok (.isub, 1) := by decide +kernel
theorem dX5_add_66 : decode cX5_add 66 = .ok (.ireturn, 1) := by decide +kernel
set_option maxRecDepth 100000 in
theorem ggX5_dropLast_X5_forgetWorld : GoodIn wsX5_dropLast wsX5_forgetWorld := goodIn_r _ [6, 7, 8, 9, 10, 11, 12, 13, 5, 14, 15, 16, 17, 18, 19, 20, 21, 22, 23, 24, 25, 26] rfl gd_wsX5_forgetWorld
set_option maxRecDepth 100000 in
theorem gX5_dropLast_X5_forgetWorld : GoodIn wsX5_dropLast (wsV RX5 39 RX5 yX5_forgetWorld wsX5_forgetWorld) := goodIn_app (goodIn_r _ [2, 3, 4, 5] rfl (by decide +kernel)) ggX5_dropLast_X5_forgetWorld
theorem dX5_dropLast_0 : decode cX5_dropLast 0 = .ok (.aload_n 0, 1) := by decide +kernel
theorem dX5_dropLast_1 : decode cX5_dropLast 1 = .ok (.getfield 36, 3) := by decide +kernel
theorem dX5_dropLast_4 : decode cX5_dropLast 4 = .ok (.ifCond .le 21, 3) := by decide +kernel
theorem dX5_dropLast_7 : decode cX5_dropLast 7 = .ok (.aload_n 0, 1) := by decide +kernel
theorem dX5_dropLast_8 : decode cX5_dropLast 8 = .ok (.dup, 1) := by decide +kernel
theorem dX5_dropLast_9 : decode cX5_dropLast 9 = .ok (.getfield 36, 3) := by decide +kernel
theorem dX5_dropLast_12 : decode cX5_dropLast 12 = .ok (.iconst 1, 1) := by decide +kernel
theorem dX5_dropLast_13 : decode cX5_dropLast 13 = .ok (.isub, 1) := by decide +kernel
theorem dX5_dropLast_14 : decode cX5_dropLast 14 = .ok (.putfield 36, 3) := by decide +kernel
theorem dX5_dropLast_17 : decode cX5_dropLast 17 = .ok (.aload_n 0, 1) := by decide +kernel
theorem dX5_dropLast_18 : decode cX5_dropLast 18 = .ok (.aload_n 0, 1) := by decide +kernel
theorem dX5_dropLast_19 : decode cX5_dropLast 19 = .ok (.getfield 36, 3) := by decide +kernel
theorem dX5_dropLast_22 : decode cX5_dropLast 22 = .ok (.invokevirtual 39, 3) := by decide +kernel
theorem dX5_dropLast_25 : decode cX5_dropLast 25 = .ok (.return_, 1) := by decide +kernel
set_option maxRecDepth 20000 in
theorem gd_wsJ7_fill_031fb : wsJ7_fill_031fb.all goodWord = true := by decide +kernel
set_option maxRecDepth 100000 in
theorem ggX5_forgetAll_J7_fill_031fb : GoodIn wsX5_forgetAll wsJ7_fill_031fb := goodIn_r _ [7] rfl gd_wsJ7_fill_031fb
set_option maxRecDepth 100000 in
theorem gX5_forgetAll_J7_fill_031fb : GoodIn wsX5_forgetAll (va_wsS RX5 43 yJ7_fill_031fb wsJ7_fill_031fb) := goodIn_app (goodIn_r _ [4, 5, 6] rfl (by decide +kernel)) ggX5_forgetAll_J7_fill_031fb
theorem dX5_forgetAll_0 : decode cX5_forgetAll 0 = .ok (.aload_n 0, 1) := by decide +kernel
theorem dX5_forgetAll_1 : decode cX5_forgetAll 1 = .ok (.getfield 25, 3) := by decide +kernel
theorem dX5_forgetAll_4 : decode cX5_forgetAll 4 = .ok (.iconst 0, 1) := by decide +kernel
theorem dX5_forgetAll_5 : decode cX5_forgetAll 5 = .ok (.invokestatic 43, 3) := by decide +kernel
theorem dX5_forgetAll_8 : decode cX5_forgetAll 8 = .ok (.aload_n 0, 1) := by decide +kernel
theorem dX5_forgetAll_9 : decode cX5_forgetAll 9 = .ok (.iconst 0, 1) := by decide +kernel
theorem dX5_forgetAll_10 : decode cX5_forgetAll 10 = .ok (.putfield 49, 3) := by decide +kernel
theorem dX5_forgetAll_13 : decode cX5_forgetAll 13 = .ok (.aload_n 0, 1) := by decide +kernel
theorem dX5_forgetAll_14 : decode cX5_forgetAll 14 = .ok (.dup, 1) := by decide +kernel
theorem dX5_forgetAll_15 : decode cX5_forgetAll 15 = .ok (.getfield 53, 3) := by decide +kernel
theorem dX5_forgetAll_18 : decode cX5_forgetAll 18 = .ok (.iconst 1, 1) := by decide +kernel
theorem dX5_forgetAll_19 : decode cX5_forgetAll 19 = .ok (.iadd, 1) := by decide +kernel
theorem dX5_forgetAll_20 : decode cX5_forgetAll 20 = .ok (.putfield 53, 3) := by decide +kernel
theorem dX5_forgetAll_23 : decode cX5_forgetAll 23 = .ok (.return_, 1) := by decide +kernel
set_option maxRecDepth 20000 in
theorem gd_wsX5_forgetPair : wsX5_forgetPair.all goodWord = true := by decide +kernel
set_option maxRecDepth 100000 in
theorem ggX5_forgetWorld_X5_forgetPair : GoodIn wsX5_forgetWorld wsX5_forgetPair := goodIn_r _ [9, 10, 11, 12, 13, 14, 15, 16, 17, 18, 19, 20, 21] rfl gd_wsX5_forgetPair
set_option maxRecDepth 100000 in
theorem gX5_forgetWorld_X5_forgetPair : GoodIn wsX5_forgetWorld (wsV RX5 62 RX5 yX5_forgetPair wsX5_forgetPair) := goodIn_app (goodIn_r _ [5, 6, 7, 8] rfl (by decide +kernel)) ggX5_forgetWorld_X5_forgetPair
theorem dX5_forgetWorld_0 : decode cX5_forgetWorld 0 = .ok (.iconst 0, 1) := by decide +kernel
theorem dX5_forgetWorld_1 : decode cX5_forgetWorld 1 = .ok (.istore_n 2, 1) := by decide +kernel
theorem dX5_forgetWorld_2 : decode cX5_forgetWorld 2 = .ok (.iload_n 2, 1) := by decide +kernel
theorem dX5_forgetWorld_3 : decode cX5_forgetWorld 3 = .ok (.bipush 21, 2) := by decide +kernel
theorem dX5_forgetWorld_5 : decode cX5_forgetWorld 5 = .ok (.if_icmp .ge 32, 3) := by decide +kernel
theorem dX5_forgetWorld_8 : decode cX5_forgetWorld 8 = .ok (.getstatic 56, 3) := by decide +kernel
theorem dX5_forgetWorld_11 : decode cX5_forgetWorld 11 = .ok (.iload_n 2, 1) := by decide +kernel
theorem dX5_forgetWorld_12 : decode cX5_forgetWorld 12 = .ok (.iaload, 1) := by decide +kernel
theorem dX5_forgetWorld_13 : decode cX5_forgetWorld 13 = .ok (.iload_n 1, 1) := by decide +kernel
theorem dX5_forgetWorld_14 : decode cX5_forgetWorld 14 = .ok (.if_icmp .eq 12, 3) := by decide +kernel
theorem dX5_forgetWorld_17 : decode cX5_forgetWorld 17 = .ok (.getstatic 59, 3) := by decide +kernel
theorem dX5_forgetWorld_20 : decode cX5_forgetWorld 20 = .ok (.iload_n 2, 1) := by decide +kernel
theorem dX5_forgetWorld_21 : decode cX5_forgetWorld 21 = .ok (.iaload, 1) := by decide +kernel
theorem dX5_forgetWorld_22 : decode cX5_forgetWorld 22 = .ok (.iload_n 1, 1) := by decide +kernel
theorem dX5_forgetWorld_23 : decode cX5_forgetWorld 23 = .ok (.if_icmp .ne 8, 3) := by decide +kernel
theorem dX5_forgetWorld_26 : decode cX5_forgetWorld 26 = .ok (.aload_n 0, 1) := by decide +kernel
theorem dX5_forgetWorld_27 : decode cX5_forgetWorld 27 = .ok (.iload_n 2, 1) := by decide +kernel
theorem dX5_forgetWorld_28 : decode cX5_forgetWorld 28 = .ok (.invokevirtual 62, 3) := by decide +kernel
theorem dX5_forgetWorld_31 : decode cX5_forgetWorld 31 = .ok (.iinc 2 1, 3) := by decide +kernel
theorem dX5_forgetWorld_34 : decode cX5_forgetWorld 34 = .ok (.goto (-32), 3) := by decide +kernel
theorem dX5_forgetWorld_37 : decode cX5_forgetWorld 37 = .ok (.aload_n 0, 1) := by decide +kernel
theorem dX5_forgetWorld_38 : decode cX5_forgetWorld 38 = .ok (.iconst 0, 1) := by decide +kernel
theorem dX5_forgetWorld_39 : decode cX5_forgetWorld 39 = .ok (.putfield 49, 3) := by decide +kernel
theorem dX5_forgetWorld_42 : decode cX5_forgetWorld 42 = .ok (.aload_n 0, 1) := by decide +kernel
theorem dX5_forgetWorld_43 : decode cX5_forgetWorld 43 = .ok (.dup, 1) := by decide +kernel
theorem dX5_forgetWorld_44 : decode cX5_forgetWorld 44 = .ok (.getfield 53, 3) := by decide +kernel
theorem dX5_forgetWorld_47 : decode cX5_forgetWorld 47 = .ok (.iconst 1, 1) := by decide +kernel
theorem dX5_forgetWorld_48 : decode cX5_forgetWorld 48 = .ok (.iadd, 1) := by decide +kernel
theorem dX5_forgetWorld_49 : decode cX5_forgetWorld 49 = .ok (.putfield 53, 3) := by decide +kernel
theorem dX5_forgetWorld_52 : decode cX5_forgetWorld 52 = .ok (.return_, 1) := by decide +kernel
theorem dX5_forgetPair_0 : decode cX5_forgetPair 0 = .ok (.iload_n 1, 1) := by decide +kernel
theorem dX5_forgetPair_1 : decode cX5_forgetPair 1 = .ok (.sipush 144, 3) := by decide +kernel
theorem dX5_forgetPair_4 : decode cX5_forgetPair 4 = .ok (.imul, 1) := by decide +kernel
theorem dX5_forgetPair_5 : decode cX5_forgetPair 5 = .ok (.istore_n 2, 1) := by decide +kernel
theorem dX5_forgetPair_6 : decode cX5_forgetPair 6 = .ok (.iload_n 2, 1) := by decide +kernel
theorem dX5_forgetPair_7 : decode cX5_forgetPair 7 = .ok (.iload_n 1, 1) := by decide +kernel
theorem dX5_forgetPair_8 : decode cX5_forgetPair 8 = .ok (.iconst 1, 1) := by decide +kernel
theorem dX5_forgetPair_9 : decode cX5_forgetPair 9 = .ok (.iadd, 1) := by decide +kernel
theorem dX5_forgetPair_10 : decode cX5_forgetPair 10 = .ok (.sipush 144, 3) := by decide +kernel
theorem dX5_forgetPair_13 : decode cX5_forgetPair 13 = .ok (.imul, 1) := by decide +kernel
theorem dX5_forgetPair_14 : decode cX5_forgetPair 14 = .ok (.if_icmp .ge 25, 3) := by decide +kernel
theorem dX5_forgetPair_17 : decode cX5_forgetPair 17 = .ok (.iload_n 2, 1) := by decide +kernel
theorem dX5_forgetPair_18 : decode cX5_forgetPair 18 = .ok (.aload_n 0, 1) := by decide +kernel
theorem dX5_forgetPair_19 : decode cX5_forgetPair 19 = .ok (.getfield 25, 3) := by decide +kernel
theorem dX5_forgetPair_22 : decode cX5_forgetPair 22 = .ok (.arraylength, 1) := by decide +kernel
theorem dX5_forgetPair_23 : decode cX5_forgetPair 23 = .ok (.if_icmp .ge 16, 3) := by decide +kernel
theorem dX5_forgetPair_26 : decode cX5_forgetPair 26 = .ok (.aload_n 0, 1) := by decide +kernel
theorem dX5_forgetPair_27 : decode cX5_forgetPair 27 = .ok (.getfield 25, 3) := by decide +kernel
theorem dX5_forgetPair_30 : decode cX5_forgetPair 30 = .ok (.iload_n 2, 1) := by decide +kernel
theorem dX5_forgetPair_31 : decode cX5_forgetPair 31 = .ok (.iconst 0, 1) := by decide +kernel
theorem dX5_forgetPair_32 : decode cX5_forgetPair 32 = .ok (.bastore, 1) := by decide +kernel
theorem dX5_forgetPair_33 : decode cX5_forgetPair 33 = .ok (.iinc 2 1, 3) := by decide +kernel
theorem dX5_forgetPair_36 : decode cX5_forgetPair 36 = .ok (.goto (-30), 3) := by decide +kernel
theorem dX5_forgetPair_39 : decode cX5_forgetPair 39 = .ok (.return_, 1) := by decide +kernel
set_option maxRecDepth 20000 in
theorem gd_wsX7_left : wsX7_left.all goodWord = true := by decide +kernel
set_option maxRecDepth 100000 in
theorem ggX5_phase_X7_left : GoodIn wsX5_phase wsX7_left := goodIn_r _ [5] rfl gd_wsX7_left
set_option maxRecDepth 20000 in
theorem gX5_phase_X7_left_n65 : GoodIn wsX5_phase (wsX7_left) := ggX5_phase_X7_left
theorem dX5_phase_0 : decode cX5_phase 0 = .ok (.iload_n 2, 1) := by decide +kernel
theorem dX5_phase_1 : decode cX5_phase 1 = .ok (.aload_n 0, 1) := by decide +kernel
theorem dX5_phase_2 : decode cX5_phase 2 = .ok (.getfield 15, 3) := by decide +kernel
theorem dX5_phase_5 : decode cX5_phase 5 = .ok (.iload_n 1, 1) := by decide +kernel
theorem dX5_phase_6 : decode cX5_phase 6 = .ok (.iaload, 1) := by decide +kernel
theorem dX5_phase_7 : decode cX5_phase 7 = .ok (.iadd, 1) := by decide +kernel
theorem dX5_phase_8 : decode cX5_phase 8 = .ok (.aload_n 0, 1) := by decide +kernel
theorem dX5_phase_9 : decode cX5_phase 9 = .ok (.getfield 11, 3) := by decide +kernel
theorem dX5_phase_12 : decode cX5_phase 12 = .ok (.iload_n 1, 1) := by decide +kernel
theorem dX5_phase_13 : decode cX5_phase 13 = .ok (.iaload, 1) := by decide +kernel
theorem dX5_phase_14 : decode cX5_phase 14 = .ok (.invokestatic 65, 3) := by decide +kernel
theorem dX5_phase_17 : decode cX5_phase 17 = .ok (.ireturn, 1) := by decide +kernel
theorem dX5_placeIn_0 : decode cX5_placeIn 0 = .ok (.aload_n 0, 1) := by decide +kernel
theorem dX5_placeIn_1 : decode cX5_placeIn 1 = .ok (.getfield 11, 3) := by decide +kernel
theorem dX5_placeIn_4 : decode cX5_placeIn 4 = .ok (.iload_n 1, 1) := by decide +kernel
theorem dX5_placeIn_5 : decode cX5_placeIn 5 = .ok (.iaload, 1) := by decide +kernel
theorem dX5_placeIn_6 : decode cX5_placeIn 6 = .ok (.iconst 1, 1) := by decide +kernel
theorem dX5_placeIn_7 : decode cX5_placeIn 7 = .ok (.if_icmp .ge 7, 3) := by decide +kernel
theorem dX5_placeIn_10 : decode cX5_placeIn 10 = .ok (.iconst 0, 1) := by decide +kernel
theorem dX5_placeIn_11 : decode cX5_placeIn 11 = .ok (.goto 15, 3) := by decide +kernel
theorem dX5_placeIn_14 : decode cX5_placeIn 14 = .ok (.iload_n 2, 1) := by decide +kernel
theorem dX5_placeIn_15 : decode cX5_placeIn 15 = .ok (.sipush 360, 3) := by decide +kernel
theorem dX5_placeIn_18 : decode cX5_placeIn 18 = .ok (.imul, 1) := by decide +kernel
theorem dX5_placeIn_19 : decode cX5_placeIn 19 = .ok (.aload_n 0, 1) := by decide +kernel
theorem dX5_placeIn_20 : decode cX5_placeIn 20 = .ok (.getfield 11, 3) := by decide +kernel
theorem dX5_placeIn_23 : decode cX5_placeIn 23 = .ok (.iload_n 1, 1) := by decide +kernel
theorem dX5_placeIn_24 : decode cX5_placeIn 24 = .ok (.iaload, 1) := by decide +kernel
theorem dX5_placeIn_25 : decode cX5_placeIn 25 = .ok (.idiv, 1) := by decide +kernel
theorem dX5_placeIn_26 : decode cX5_placeIn 26 = .ok (.ireturn, 1) := by decide +kernel
set_option maxRecDepth 20000 in
theorem gd_wsX5_phase : wsX5_phase.all goodWord = true := by decide +kernel
set_option maxRecDepth 100000 in
theorem ggX5_placeAt_X5_phase : GoodIn wsX5_placeAt wsX5_phase := goodIn_r _ [5, 6, 7, 8, 9, 10, 15, 16, 17, 18, 19, 20, 21, 22, 23, 24, 25] rfl gd_wsX5_phase
set_option maxRecDepth 100000 in
theorem gX5_placeAt_X5_phase : GoodIn wsX5_placeAt (wsV RX5 69 RX5 yX5_phase wsX5_phase) := goodIn_app (goodIn_r _ [1, 2, 3, 4] rfl (by decide +kernel)) ggX5_placeAt_X5_phase
set_option maxRecDepth 20000 in
theorem gd_wsX5_placeIn : wsX5_placeIn.all goodWord = true := by decide +kernel
set_option maxRecDepth 100000 in
theorem ggX5_placeAt_X5_placeIn : GoodIn wsX5_placeAt wsX5_placeIn := goodIn_r _ [14, 7, 15, 16, 17, 18, 19, 20, 21, 22, 23, 24, 25] rfl gd_wsX5_placeIn
set_option maxRecDepth 100000 in
theorem gX5_placeAt_X5_placeIn : GoodIn wsX5_placeAt (wsV RX5 72 RX5 yX5_placeIn wsX5_placeIn) := goodIn_app (goodIn_r _ [11, 12, 13, 4] rfl (by decide +kernel)) ggX5_placeAt_X5_placeIn
theorem dX5_placeAt_0 : decode cX5_placeAt 0 = .ok (.aload_n 0, 1) := by decide +kernel
theorem dX5_placeAt_1 : decode cX5_placeAt 1 = .ok (.iload_n 1, 1) := by decide +kernel
theorem dX5_placeAt_2 : decode cX5_placeAt 2 = .ok (.aload_n 0, 1) := by decide +kernel
theorem dX5_placeAt_3 : decode cX5_placeAt 3 = .ok (.iload_n 1, 1) := by decide +kernel
theorem dX5_placeAt_4 : decode cX5_placeAt 4 = .ok (.iload_n 2, 1) := by decide +kernel
theorem dX5_placeAt_5 : decode cX5_placeAt 5 = .ok (.invokevirtual 69, 3) := by decide +kernel
theorem dX5_placeAt_8 : decode cX5_placeAt 8 = .ok (.invokevirtual 72, 3) := by decide +kernel
theorem dX5_placeAt_11 : decode cX5_placeAt 11 = .ok (.ireturn, 1) := by decide +kernel
set_option maxRecDepth 20000 in
theorem gd_wsX7_commonRound : wsX7_commonRound.all goodWord = true := by decide +kernel
set_option maxRecDepth 100000 in
theorem ggX5_round_X7_commonRound : GoodIn wsX5_round wsX7_commonRound := goodIn_r _ [5, 6, 7, 4, 8] rfl gd_wsX7_commonRound
set_option maxRecDepth 20000 in
theorem gX5_round_X7_commonRound_n75 : GoodIn wsX5_round (wsX7_commonRound) := ggX5_round_X7_commonRound
theorem dX5_round_0 : decode cX5_round 0 = .ok (.iconst 1, 1) := by decide +kernel
theorem dX5_round_1 : decode cX5_round 1 = .ok (.istore_n 1, 1) := by decide +kernel
theorem dX5_round_2 : decode cX5_round 2 = .ok (.iconst 0, 1) := by decide +kernel
theorem dX5_round_3 : decode cX5_round 3 = .ok (.istore_n 2, 1) := by decide +kernel
theorem dX5_round_4 : decode cX5_round 4 = .ok (.iload_n 2, 1) := by decide +kernel
theorem dX5_round_5 : decode cX5_round 5 = .ok (.aload_n 0, 1) := by decide +kernel
theorem dX5_round_6 : decode cX5_round 6 = .ok (.getfield 36, 3) := by decide +kernel
theorem dX5_round_9 : decode cX5_round 9 = .ok (.if_icmp .ge 20, 3) := by decide +kernel
theorem dX5_round_12 : decode cX5_round 12 = .ok (.iload_n 1, 1) := by decide +kernel
theorem dX5_round_13 : decode cX5_round 13 = .ok (.aload_n 0, 1) := by decide +kernel
theorem dX5_round_14 : decode cX5_round 14 = .ok (.getfield 11, 3) := by decide +kernel
theorem dX5_round_17 : decode cX5_round 17 = .ok (.iload_n 2, 1) := by decide +kernel
theorem dX5_round_18 : decode cX5_round 18 = .ok (.iaload, 1) := by decide +kernel
theorem dX5_round_19 : decode cX5_round 19 = .ok (.invokestatic 75, 3) := by decide +kernel
theorem dX5_round_22 : decode cX5_round 22 = .ok (.istore_n 1, 1) := by decide +kernel
theorem dX5_round_23 : decode cX5_round 23 = .ok (.iinc 2 1, 3) := by decide +kernel
theorem dX5_round_26 : decode cX5_round 26 = .ok (.goto (-22), 3) := by decide +kernel
theorem dX5_round_29 : decode cX5_round 29 = .ok (.iload_n 1, 1) := by decide +kernel
theorem dX5_round_30 : decode cX5_round 30 = .ok (.ireturn, 1) := by decide +kernel
set_option maxRecDepth 100000 in
theorem ggX5_roundOfTwo_X7_commonRound : GoodIn wsX5_roundOfTwo wsX7_commonRound := goodIn_r _ [4, 5, 6, 3, 7] rfl gd_wsX7_commonRound
set_option maxRecDepth 20000 in
theorem gX5_roundOfTwo_X7_commonRound_n75 : GoodIn wsX5_roundOfTwo (wsX7_commonRound) := ggX5_roundOfTwo_X7_commonRound
theorem dX5_roundOfTwo_0 : decode cX5_roundOfTwo 0 = .ok (.aload_n 0, 1) := by decide +kernel
theorem dX5_roundOfTwo_1 : decode cX5_roundOfTwo 1 = .ok (.getfield 11, 3) := by decide +kernel
theorem dX5_roundOfTwo_4 : decode cX5_roundOfTwo 4 = .ok (.iload_n 1, 1) := by decide +kernel
theorem dX5_roundOfTwo_5 : decode cX5_roundOfTwo 5 = .ok (.iaload, 1) := by decide +kernel
theorem dX5_roundOfTwo_6 : decode cX5_roundOfTwo 6 = .ok (.aload_n 0, 1) := by decide +kernel
theorem dX5_roundOfTwo_7 : decode cX5_roundOfTwo 7 = .ok (.getfield 11, 3) := by decide +kernel
theorem dX5_roundOfTwo_10 : decode cX5_roundOfTwo 10 = .ok (.iload_n 2, 1) := by decide +kernel
theorem dX5_roundOfTwo_11 : decode cX5_roundOfTwo 11 = .ok (.iaload, 1) := by decide +kernel
theorem dX5_roundOfTwo_12 : decode cX5_roundOfTwo 12 = .ok (.invokestatic 75, 3) := by decide +kernel
theorem dX5_roundOfTwo_15 : decode cX5_roundOfTwo 15 = .ok (.ireturn, 1) := by decide +kernel
set_option maxRecDepth 100000 in
theorem ggX5_meet_X5_phase : GoodIn wsX5_meet wsX5_phase := goodIn_r _ [12, 13, 14, 15, 16, 17, 58, 59, 60, 61, 62, 63, 64, 65, 66, 67, 68] rfl gd_wsX5_phase
set_option maxRecDepth 100000 in
theorem gX5_meet_X5_phase : GoodIn wsX5_meet (wsV RX5 69 RX5 yX5_phase wsX5_phase) := goodIn_app (goodIn_r _ [8, 9, 10, 11] rfl (by decide +kernel)) ggX5_meet_X5_phase
set_option maxRecDepth 20000 in
theorem gd_wsX5_look : wsX5_look.all goodWord = true := by decide +kernel
set_option maxRecDepth 100000 in
theorem ggX5_meet_X5_look : GoodIn wsX5_meet wsX5_look := goodIn_r _ [21, 22, 23, 24, 25, 11, 26, 27, 28, 29, 30, 3, 31, 1, 2, 4, 32, 33, 34, 35, 36, 37, 38, 39, 14, 40, 41, 42, 43, 44, 45, 46, 47, 48, 49, 50, 51, 52, 53, 54, 6, 7, 55, 56, 57, 58, 59, 60, 61, 62, 63, 64, 65, 66, 67, 68, 69, 70, 71, 72, 73, 74, 75, 76, 77, 78, 79, 80] rfl gd_wsX5_look
set_option maxRecDepth 100000 in
theorem gX5_meet_X5_look : GoodIn wsX5_meet (wsV RX5 86 RX5 yX5_look wsX5_look) := goodIn_app (goodIn_r _ [18, 19, 20, 11] rfl (by decide +kernel)) ggX5_meet_X5_look
theorem dX5_meet_0 : decode cX5_meet 0 = .ok (.iload_n 1, 1) := by decide +kernel
theorem dX5_meet_1 : decode cX5_meet 1 = .ok (.iload_n 2, 1) := by decide +kernel
theorem dX5_meet_2 : decode cX5_meet 2 = .ok (.invokestatic 78, 3) := by decide +kernel
theorem dX5_meet_5 : decode cX5_meet 5 = .ok (.istore 4, 2) := by decide +kernel
theorem dX5_meet_7 : decode cX5_meet 7 = .ok (.iload_n 1, 1) := by decide +kernel
theorem dX5_meet_8 : decode cX5_meet 8 = .ok (.iload_n 2, 1) := by decide +kernel
theorem dX5_meet_9 : decode cX5_meet 9 = .ok (.invokestatic 83, 3) := by decide +kernel
theorem dX5_meet_12 : decode cX5_meet 12 = .ok (.istore 5, 2) := by decide +kernel
theorem dX5_meet_14 : decode cX5_meet 14 = .ok (.aload_n 0, 1) := by decide +kernel
theorem dX5_meet_15 : decode cX5_meet 15 = .ok (.iload 5, 2) := by decide +kernel
theorem dX5_meet_17 : decode cX5_meet 17 = .ok (.iload 5, 2) := by decide +kernel
theorem dX5_meet_19 : decode cX5_meet 19 = .ok (.iconst 1, 1) := by decide +kernel
theorem dX5_meet_20 : decode cX5_meet 20 = .ok (.isub, 1) := by decide +kernel
theorem dX5_meet_21 : decode cX5_meet 21 = .ok (.imul, 1) := by decide +kernel
theorem dX5_meet_22 : decode cX5_meet 22 = .ok (.iconst 2, 1) := by decide +kernel
theorem dX5_meet_23 : decode cX5_meet 23 = .ok (.idiv, 1) := by decide +kernel
theorem dX5_meet_24 : decode cX5_meet 24 = .ok (.iload 4, 2) := by decide +kernel
theorem dX5_meet_26 : decode cX5_meet 26 = .ok (.iadd, 1) := by decide +kernel
theorem dX5_meet_27 : decode cX5_meet 27 = .ok (.aload_n 0, 1) := by decide +kernel
theorem dX5_meet_28 : decode cX5_meet 28 = .ok (.iload 4, 2) := by decide +kernel
theorem dX5_meet_30 : decode cX5_meet 30 = .ok (.iload_n 3, 1) := by decide +kernel
theorem dX5_meet_31 : decode cX5_meet 31 = .ok (.invokevirtual 69, 3) := by decide +kernel
theorem dX5_meet_34 : decode cX5_meet 34 = .ok (.aload_n 0, 1) := by decide +kernel
theorem dX5_meet_35 : decode cX5_meet 35 = .ok (.iload 5, 2) := by decide +kernel
theorem dX5_meet_37 : decode cX5_meet 37 = .ok (.iload_n 3, 1) := by decide +kernel
theorem dX5_meet_38 : decode cX5_meet 38 = .ok (.invokevirtual 69, 3) := by decide +kernel
theorem dX5_meet_41 : decode cX5_meet 41 = .ok (.invokevirtual 86, 3) := by decide +kernel
theorem dX5_meet_44 : decode cX5_meet 44 = .ok (.ireturn, 1) := by decide +kernel
set_option maxRecDepth 20000 in
theorem gd_wsX5_lawful : wsX5_lawful.all goodWord = true := by decide +kernel
set_option maxRecDepth 100000 in
theorem ggX5_look_X5_lawful : GoodIn wsX5_look wsX5_lawful := goodIn_r _ [6, 7, 8, 9, 10, 11, 12, 13, 14, 15, 16, 17, 18, 19, 20, 21, 22, 5, 23, 24, 25, 26, 27, 28, 29, 30, 31, 32, 33, 34, 35, 36, 37, 38, 39, 40, 41, 42, 43, 44, 45, 46, 47, 48, 49, 50, 51, 52, 53, 54, 55, 56, 57, 58, 59, 60, 61, 62, 63, 64, 65, 66, 67] rfl gd_wsX5_lawful
set_option maxRecDepth 100000 in
theorem gX5_look_X5_lawful : GoodIn wsX5_look (wsV RX5 90 RX5 yX5_lawful wsX5_lawful) := goodIn_app (goodIn_r _ [2, 3, 4, 5] rfl (by decide +kernel)) ggX5_look_X5_lawful
theorem dX5_look_0 : decode cX5_look 0 = .ok (.iload_n 1, 1) := by decide +kernel
theorem dX5_look_1 : decode cX5_look 1 = .ok (.sipush 144, 3) := by decide +kernel
theorem dX5_look_4 : decode cX5_look 4 = .ok (.imul, 1) := by decide +kernel
theorem dX5_look_5 : decode cX5_look 5 = .ok (.iload_n 2, 1) := by decide +kernel
theorem dX5_look_6 : decode cX5_look 6 = .ok (.bipush 12, 2) := by decide +kernel
theorem dX5_look_8 : decode cX5_look 8 = .ok (.imul, 1) := by decide +kernel
theorem dX5_look_9 : decode cX5_look 9 = .ok (.iadd, 1) := by decide +kernel
theorem dX5_look_10 : decode cX5_look 10 = .ok (.iload_n 3, 1) := by decide +kernel
theorem dX5_look_11 : decode cX5_look 11 = .ok (.iadd, 1) := by decide +kernel
theorem dX5_look_12 : decode cX5_look 12 = .ok (.istore 4, 2) := by decide +kernel
theorem dX5_look_14 : decode cX5_look 14 = .ok (.iload 4, 2) := by decide +kernel
theorem dX5_look_16 : decode cX5_look 16 = .ok (.ifCond .lt 13, 3) := by decide +kernel
theorem dX5_look_19 : decode cX5_look 19 = .ok (.iload 4, 2) := by decide +kernel
theorem dX5_look_21 : decode cX5_look 21 = .ok (.aload_n 0, 1) := by decide +kernel
theorem dX5_look_22 : decode cX5_look 22 = .ok (.getfield 25, 3) := by decide +kernel
theorem dX5_look_25 : decode cX5_look 25 = .ok (.arraylength, 1) := by decide +kernel
theorem dX5_look_26 : decode cX5_look 26 = .ok (.if_icmp .lt 5, 3) := by decide +kernel
theorem dX5_look_29 : decode cX5_look 29 = .ok (.iconst 0, 1) := by decide +kernel
theorem dX5_look_30 : decode cX5_look 30 = .ok (.ireturn, 1) := by decide +kernel
theorem dX5_look_31 : decode cX5_look 31 = .ok (.aload_n 0, 1) := by decide +kernel
theorem dX5_look_32 : decode cX5_look 32 = .ok (.getfield 25, 3) := by decide +kernel
theorem dX5_look_35 : decode cX5_look 35 = .ok (.iload 4, 2) := by decide +kernel
theorem dX5_look_37 : decode cX5_look 37 = .ok (.baload, 1) := by decide +kernel
theorem dX5_look_38 : decode cX5_look 38 = .ok (.ifCond .ne 26, 3) := by decide +kernel
theorem dX5_look_41 : decode cX5_look 41 = .ok (.aload_n 0, 1) := by decide +kernel
theorem dX5_look_42 : decode cX5_look 42 = .ok (.getfield 25, 3) := by decide +kernel
theorem dX5_look_45 : decode cX5_look 45 = .ok (.iload 4, 2) := by decide +kernel
theorem dX5_look_47 : decode cX5_look 47 = .ok (.aload_n 0, 1) := by decide +kernel
theorem dX5_look_48 : decode cX5_look 48 = .ok (.iload_n 1, 1) := by decide +kernel
theorem dX5_look_49 : decode cX5_look 49 = .ok (.iload_n 2, 1) := by decide +kernel
theorem dX5_look_50 : decode cX5_look 50 = .ok (.iload_n 3, 1) := by decide +kernel
theorem dX5_look_51 : decode cX5_look 51 = .ok (.invokevirtual 90, 3) := by decide +kernel
theorem dX5_look_54 : decode cX5_look 54 = .ok (.ifCond .eq 7, 3) := by decide +kernel
theorem dX5_look_57 : decode cX5_look 57 = .ok (.iconst 2, 1) := by decide +kernel
theorem dX5_look_58 : decode cX5_look 58 = .ok (.goto 4, 3) := by decide +kernel
theorem dX5_look_61 : decode cX5_look 61 = .ok (.iconst 1, 1) := by decide +kernel
theorem dX5_look_62 : decode cX5_look 62 = .ok (.i2b, 1) := by decide +kernel
theorem dX5_look_63 : decode cX5_look 63 = .ok (.bastore, 1) := by decide +kernel
theorem dX5_look_64 : decode cX5_look 64 = .ok (.aload_n 0, 1) := by decide +kernel
theorem dX5_look_65 : decode cX5_look 65 = .ok (.getfield 25, 3) := by decide +kernel
theorem dX5_look_68 : decode cX5_look 68 = .ok (.iload 4, 2) := by decide +kernel
theorem dX5_look_70 : decode cX5_look 70 = .ok (.baload, 1) := by decide +kernel
theorem dX5_look_71 : decode cX5_look 71 = .ok (.iconst 2, 1) := by decide +kernel
theorem dX5_look_72 : decode cX5_look 72 = .ok (.if_icmp .ne 7, 3) := by decide +kernel
theorem dX5_look_75 : decode cX5_look 75 = .ok (.iconst 1, 1) := by decide +kernel
theorem dX5_look_76 : decode cX5_look 76 = .ok (.goto 4, 3) := by decide +kernel
theorem dX5_look_79 : decode cX5_look 79 = .ok (.iconst 0, 1) := by decide +kernel
theorem dX5_look_80 : decode cX5_look 80 = .ok (.ireturn, 1) := by decide +kernel
set_option maxRecDepth 100000 in
theorem ggX5_lawful_X5_placeIn : GoodIn wsX5_lawful wsX5_placeIn := goodIn_r _ [18, 19, 40, 41, 42, 43, 44, 45, 46, 47, 48, 49, 50] rfl gd_wsX5_placeIn
set_option maxRecDepth 100000 in
theorem gX5_lawful_X5_placeIn : GoodIn wsX5_lawful (wsV RX5 72 RX5 yX5_placeIn wsX5_placeIn) := goodIn_app (goodIn_r _ [14, 15, 16, 17] rfl (by decide +kernel)) ggX5_lawful_X5_placeIn
set_option maxRecDepth 20000 in
theorem gd_wsX2_isTold : wsX2_isTold.all goodWord = true := by decide +kernel
set_option maxRecDepth 100000 in
theorem ggX5_lawful_X2_isTold : GoodIn wsX5_lawful wsX2_isTold := goodIn_r _ [24, 25, 51, 52, 53, 54, 55, 56, 57, 58, 59, 60, 61, 62] rfl gd_wsX2_isTold
set_option maxRecDepth 100000 in
theorem gX5_lawful_X2_isTold : GoodIn wsX5_lawful (wsV RX5 97 RX2 yX2_isTold wsX2_isTold) := goodIn_app (goodIn_r _ [20, 21, 22, 23] rfl (by decide +kernel)) ggX5_lawful_X2_isTold
set_option maxRecDepth 20000 in
theorem gd_wsX2_value : wsX2_value.all goodWord = true := by decide +kernel
set_option maxRecDepth 100000 in
theorem ggX5_lawful_X2_value : GoodIn wsX5_lawful wsX2_value := goodIn_r _ [29, 25, 30, 31, 32, 33, 34, 35, 5, 36, 37, 38, 23, 39, 51, 52, 53, 54, 55, 56, 57, 58, 59, 60, 61, 62] rfl gd_wsX2_value
set_option maxRecDepth 100000 in
theorem gX5_lawful_X2_value : GoodIn wsX5_lawful (wsV RX5 106 RX2 yX2_value wsX2_value) := goodIn_app (goodIn_r _ [26, 27, 28, 23] rfl (by decide +kernel)) ggX5_lawful_X2_value
theorem dX5_lawful_0 : decode cX5_lawful 0 = .ok (.getstatic 56, 3) := by decide +kernel
theorem dX5_lawful_3 : decode cX5_lawful 3 = .ok (.iload_n 1, 1) := by decide +kernel
theorem dX5_lawful_4 : decode cX5_lawful 4 = .ok (.iaload, 1) := by decide +kernel
theorem dX5_lawful_5 : decode cX5_lawful 5 = .ok (.istore 4, 2) := by decide +kernel
theorem dX5_lawful_7 : decode cX5_lawful 7 = .ok (.getstatic 59, 3) := by decide +kernel
theorem dX5_lawful_10 : decode cX5_lawful 10 = .ok (.iload_n 1, 1) := by decide +kernel
theorem dX5_lawful_11 : decode cX5_lawful 11 = .ok (.iaload, 1) := by decide +kernel
theorem dX5_lawful_12 : decode cX5_lawful 12 = .ok (.istore 5, 2) := by decide +kernel
theorem dX5_lawful_14 : decode cX5_lawful 14 = .ok (.aload_n 0, 1) := by decide +kernel
theorem dX5_lawful_15 : decode cX5_lawful 15 = .ok (.iload 4, 2) := by decide +kernel
theorem dX5_lawful_17 : decode cX5_lawful 17 = .ok (.iload_n 2, 1) := by decide +kernel
theorem dX5_lawful_18 : decode cX5_lawful 18 = .ok (.invokevirtual 72, 3) := by decide +kernel
theorem dX5_lawful_21 : decode cX5_lawful 21 = .ok (.istore 6, 2) := by decide +kernel
theorem dX5_lawful_23 : decode cX5_lawful 23 = .ok (.aload_n 0, 1) := by decide +kernel
theorem dX5_lawful_24 : decode cX5_lawful 24 = .ok (.iload 5, 2) := by decide +kernel
theorem dX5_lawful_26 : decode cX5_lawful 26 = .ok (.iload_n 3, 1) := by decide +kernel
theorem dX5_lawful_27 : decode cX5_lawful 27 = .ok (.invokevirtual 72, 3) := by decide +kernel
theorem dX5_lawful_30 : decode cX5_lawful 30 = .ok (.istore 7, 2) := by decide +kernel
theorem dX5_lawful_32 : decode cX5_lawful 32 = .ok (.iload 6, 2) := by decide +kernel
theorem dX5_lawful_34 : decode cX5_lawful 34 = .ok (.iload 7, 2) := by decide +kernel
theorem dX5_lawful_36 : decode cX5_lawful 36 = .ok (.isub, 1) := by decide +kernel
theorem dX5_lawful_37 : decode cX5_lawful 37 = .ok (.invokestatic 93, 3) := by decide +kernel
theorem dX5_lawful_40 : decode cX5_lawful 40 = .ok (.istore 8, 2) := by decide +kernel
theorem dX5_lawful_42 : decode cX5_lawful 42 = .ok (.iload 8, 2) := by decide +kernel
theorem dX5_lawful_44 : decode cX5_lawful 44 = .ok (.sipush 360, 3) := by decide +kernel
theorem dX5_lawful_47 : decode cX5_lawful 47 = .ok (.iload 8, 2) := by decide +kernel
theorem dX5_lawful_49 : decode cX5_lawful 49 = .ok (.isub, 1) := by decide +kernel
theorem dX5_lawful_50 : decode cX5_lawful 50 = .ok (.invokestatic 78, 3) := by decide +kernel
theorem dX5_lawful_53 : decode cX5_lawful 53 = .ok (.istore 9, 2) := by decide +kernel
theorem dX5_lawful_55 : decode cX5_lawful 55 = .ok (.aload_n 0, 1) := by decide +kernel
theorem dX5_lawful_56 : decode cX5_lawful 56 = .ok (.getfield 32, 3) := by decide +kernel
theorem dX5_lawful_59 : decode cX5_lawful 59 = .ok (.invokevirtual 97, 3) := by decide +kernel
theorem dX5_lawful_62 : decode cX5_lawful 62 = .ok (.ifCond .ne 22, 3) := by decide +kernel
theorem dX5_lawful_65 : decode cX5_lawful 65 = .ok (.iload 9, 2) := by decide +kernel
theorem dX5_lawful_67 : decode cX5_lawful 67 = .ok (.aload_n 0, 1) := by decide +kernel
theorem dX5_lawful_68 : decode cX5_lawful 68 = .ok (.getfield 21, 3) := by decide +kernel
theorem dX5_lawful_71 : decode cX5_lawful 71 = .ok (.iadd, 1) := by decide +kernel
theorem dX5_lawful_72 : decode cX5_lawful 72 = .ok (.sipush 180, 3) := by decide +kernel
theorem dX5_lawful_75 : decode cX5_lawful 75 = .ok (.if_icmp .gt 7, 3) := by decide +kernel
theorem dX5_lawful_78 : decode cX5_lawful 78 = .ok (.iconst 1, 1) := by decide +kernel
theorem dX5_lawful_79 : decode cX5_lawful 79 = .ok (.goto 4, 3) := by decide +kernel
theorem dX5_lawful_82 : decode cX5_lawful 82 = .ok (.iconst 0, 1) := by decide +kernel
theorem dX5_lawful_83 : decode cX5_lawful 83 = .ok (.ireturn, 1) := by decide +kernel
theorem dX5_lawful_84 : decode cX5_lawful 84 = .ok (.aload_n 0, 1) := by decide +kernel
theorem dX5_lawful_85 : decode cX5_lawful 85 = .ok (.getfield 32, 3) := by decide +kernel
theorem dX5_lawful_88 : decode cX5_lawful 88 = .ok (.getfield 103, 3) := by decide +kernel
theorem dX5_lawful_91 : decode cX5_lawful 91 = .ok (.astore 10, 2) := by decide +kernel
theorem dX5_lawful_93 : decode cX5_lawful 93 = .ok (.aload 10, 2) := by decide +kernel
theorem dX5_lawful_95 : decode cX5_lawful 95 = .ok (.iconst 0, 1) := by decide +kernel
theorem dX5_lawful_96 : decode cX5_lawful 96 = .ok (.iload 9, 2) := by decide +kernel
theorem dX5_lawful_98 : decode cX5_lawful 98 = .ok (.iastore, 1) := by decide +kernel
theorem dX5_lawful_99 : decode cX5_lawful 99 = .ok (.aload 10, 2) := by decide +kernel
theorem dX5_lawful_101 : decode cX5_lawful 101 = .ok (.iconst 1, 1) := by decide +kernel
theorem dX5_lawful_102 : decode cX5_lawful 102 = .ok (.aload_n 0, 1) := by decide +kernel
theorem dX5_lawful_103 : decode cX5_lawful 103 = .ok (.getfield 18, 3) := by decide +kernel
theorem dX5_lawful_106 : decode cX5_lawful 106 = .ok (.iload 4, 2) := by decide +kernel
theorem dX5_lawful_108 : decode cX5_lawful 108 = .ok (.iaload, 1) := by decide +kernel
theorem dX5_lawful_109 : decode cX5_lawful 109 = .ok (.iastore, 1) := by decide +kernel
theorem dX5_lawful_110 : decode cX5_lawful 110 = .ok (.aload 10, 2) := by decide +kernel
theorem dX5_lawful_112 : decode cX5_lawful 112 = .ok (.iconst 2, 1) := by decide +kernel
theorem dX5_lawful_113 : decode cX5_lawful 113 = .ok (.aload_n 0, 1) := by decide +kernel
theorem dX5_lawful_114 : decode cX5_lawful 114 = .ok (.getfield 18, 3) := by decide +kernel
theorem dX5_lawful_117 : decode cX5_lawful 117 = .ok (.iload 5, 2) := by decide +kernel
theorem dX5_lawful_119 : decode cX5_lawful 119 = .ok (.iaload, 1) := by decide +kernel
theorem dX5_lawful_120 : decode cX5_lawful 120 = .ok (.iastore, 1) := by decide +kernel
theorem dX5_lawful_121 : decode cX5_lawful 121 = .ok (.aload 10, 2) := by decide +kernel
theorem dX5_lawful_123 : decode cX5_lawful 123 = .ok (.iconst 3, 1) := by decide +kernel
theorem dX5_lawful_124 : decode cX5_lawful 124 = .ok (.aload_n 0, 1) := by decide +kernel
theorem dX5_lawful_125 : decode cX5_lawful 125 = .ok (.getfield 21, 3) := by decide +kernel
theorem dX5_lawful_128 : decode cX5_lawful 128 = .ok (.iastore, 1) := by decide +kernel
theorem dX5_lawful_129 : decode cX5_lawful 129 = .ok (.aload 10, 2) := by decide +kernel
theorem dX5_lawful_131 : decode cX5_lawful 131 = .ok (.iconst 4, 1) := by decide +kernel
theorem dX5_lawful_132 : decode cX5_lawful 132 = .ok (.iload 6, 2) := by decide +kernel
theorem dX5_lawful_134 : decode cX5_lawful 134 = .ok (.iastore, 1) := by decide +kernel
theorem dX5_lawful_135 : decode cX5_lawful 135 = .ok (.aload 10, 2) := by decide +kernel
theorem dX5_lawful_137 : decode cX5_lawful 137 = .ok (.iconst 5, 1) := by decide +kernel
theorem dX5_lawful_138 : decode cX5_lawful 138 = .ok (.iload 7, 2) := by decide +kernel
theorem dX5_lawful_140 : decode cX5_lawful 140 = .ok (.iastore, 1) := by decide +kernel
theorem dX5_lawful_141 : decode cX5_lawful 141 = .ok (.aload_n 0, 1) := by decide +kernel
theorem dX5_lawful_142 : decode cX5_lawful 142 = .ok (.getfield 32, 3) := by decide +kernel
theorem dX5_lawful_145 : decode cX5_lawful 145 = .ok (.invokevirtual 106, 3) := by decide +kernel
theorem dX5_lawful_148 : decode cX5_lawful 148 = .ok (.ifCond .eq 7, 3) := by decide +kernel
theorem dX5_lawful_151 : decode cX5_lawful 151 = .ok (.iconst 1, 1) := by decide +kernel
theorem dX5_lawful_152 : decode cX5_lawful 152 = .ok (.goto 4, 3) := by decide +kernel
theorem dX5_lawful_155 : decode cX5_lawful 155 = .ok (.iconst 0, 1) := by decide +kernel
theorem dX5_lawful_156 : decode cX5_lawful 156 = .ok (.ireturn, 1) := by decide +kernel
set_option maxRecDepth 100000 in
theorem ggX5_turnTo_X5_phase : GoodIn wsX5_turnTo wsX5_phase := goodIn_r _ [7, 8, 9, 10, 11, 12, 13, 14, 15, 16, 17, 18, 19, 20, 21, 22, 23] rfl gd_wsX5_phase
set_option maxRecDepth 100000 in
theorem gX5_turnTo_X5_phase : GoodIn wsX5_turnTo (wsV RX5 69 RX5 yX5_phase wsX5_phase) := goodIn_app (goodIn_r _ [3, 4, 5, 6] rfl (by decide +kernel)) ggX5_turnTo_X5_phase
theorem dX5_turnTo_0 : decode cX5_turnTo 0 = .ok (.iconst 0, 1) := by decide +kernel
theorem dX5_turnTo_1 : decode cX5_turnTo 1 = .ok (.istore_n 2, 1) := by decide +kernel
theorem dX5_turnTo_2 : decode cX5_turnTo 2 = .ok (.iload_n 2, 1) := by decide +kernel
theorem dX5_turnTo_3 : decode cX5_turnTo 3 = .ok (.aload_n 0, 1) := by decide +kernel
theorem dX5_turnTo_4 : decode cX5_turnTo 4 = .ok (.getfield 36, 3) := by decide +kernel
theorem dX5_turnTo_7 : decode cX5_turnTo 7 = .ok (.if_icmp .ge 21, 3) := by decide +kernel
theorem dX5_turnTo_10 : decode cX5_turnTo 10 = .ok (.aload_n 0, 1) := by decide +kernel
theorem dX5_turnTo_11 : decode cX5_turnTo 11 = .ok (.getfield 29, 3) := by decide +kernel
theorem dX5_turnTo_14 : decode cX5_turnTo 14 = .ok (.iload_n 2, 1) := by decide +kernel
theorem dX5_turnTo_15 : decode cX5_turnTo 15 = .ok (.aload_n 0, 1) := by decide +kernel
theorem dX5_turnTo_16 : decode cX5_turnTo 16 = .ok (.iload_n 2, 1) := by decide +kernel
theorem dX5_turnTo_17 : decode cX5_turnTo 17 = .ok (.iload_n 1, 1) := by decide +kernel
theorem dX5_turnTo_18 : decode cX5_turnTo 18 = .ok (.invokevirtual 69, 3) := by decide +kernel
theorem dX5_turnTo_21 : decode cX5_turnTo 21 = .ok (.iastore, 1) := by decide +kernel
theorem dX5_turnTo_22 : decode cX5_turnTo 22 = .ok (.iinc 2 1, 3) := by decide +kernel
theorem dX5_turnTo_25 : decode cX5_turnTo 25 = .ok (.goto (-23), 3) := by decide +kernel
theorem dX5_turnTo_28 : decode cX5_turnTo 28 = .ok (.return_, 1) := by decide +kernel
theorem dX5_forward_0 : decode cX5_forward 0 = .ok (.iconst 0, 1) := by decide +kernel
theorem dX5_forward_1 : decode cX5_forward 1 = .ok (.istore_n 1, 1) := by decide +kernel
theorem dX5_forward_2 : decode cX5_forward 2 = .ok (.iload_n 1, 1) := by decide +kernel
theorem dX5_forward_3 : decode cX5_forward 3 = .ok (.aload_n 0, 1) := by decide +kernel
theorem dX5_forward_4 : decode cX5_forward 4 = .ok (.getfield 36, 3) := by decide +kernel
theorem dX5_forward_7 : decode cX5_forward 7 = .ok (.if_icmp .ge 39, 3) := by decide +kernel
theorem dX5_forward_10 : decode cX5_forward 10 = .ok (.aload_n 0, 1) := by decide +kernel
theorem dX5_forward_11 : decode cX5_forward 11 = .ok (.getfield 29, 3) := by decide +kernel
theorem dX5_forward_14 : decode cX5_forward 14 = .ok (.iload_n 1, 1) := by decide +kernel
theorem dX5_forward_15 : decode cX5_forward 15 = .ok (.iaload, 1) := by decide +kernel
theorem dX5_forward_16 : decode cX5_forward 16 = .ok (.iconst 1, 1) := by decide +kernel
theorem dX5_forward_17 : decode cX5_forward 17 = .ok (.iadd, 1) := by decide +kernel
theorem dX5_forward_18 : decode cX5_forward 18 = .ok (.istore_n 2, 1) := by decide +kernel
theorem dX5_forward_19 : decode cX5_forward 19 = .ok (.aload_n 0, 1) := by decide +kernel
theorem dX5_forward_20 : decode cX5_forward 20 = .ok (.getfield 29, 3) := by decide +kernel
theorem dX5_forward_23 : decode cX5_forward 23 = .ok (.iload_n 1, 1) := by decide +kernel
theorem dX5_forward_24 : decode cX5_forward 24 = .ok (.iload_n 2, 1) := by decide +kernel
theorem dX5_forward_25 : decode cX5_forward 25 = .ok (.aload_n 0, 1) := by decide +kernel
theorem dX5_forward_26 : decode cX5_forward 26 = .ok (.getfield 11, 3) := by decide +kernel
theorem dX5_forward_29 : decode cX5_forward 29 = .ok (.iload_n 1, 1) := by decide +kernel
theorem dX5_forward_30 : decode cX5_forward 30 = .ok (.iaload, 1) := by decide +kernel
theorem dX5_forward_31 : decode cX5_forward 31 = .ok (.if_icmp .ge 7, 3) := by decide +kernel
theorem dX5_forward_34 : decode cX5_forward 34 = .ok (.iload_n 2, 1) := by decide +kernel
theorem dX5_forward_35 : decode cX5_forward 35 = .ok (.goto 4, 3) := by decide +kernel
theorem dX5_forward_38 : decode cX5_forward 38 = .ok (.iconst 0, 1) := by decide +kernel
theorem dX5_forward_39 : decode cX5_forward 39 = .ok (.iastore, 1) := by decide +kernel
theorem dX5_forward_40 : decode cX5_forward 40 = .ok (.iinc 1 1, 3) := by decide +kernel
theorem dX5_forward_43 : decode cX5_forward 43 = .ok (.goto (-41), 3) := by decide +kernel
theorem dX5_forward_46 : decode cX5_forward 46 = .ok (.return_, 1) := by decide +kernel
theorem dX5_backward_0 : decode cX5_backward 0 = .ok (.iconst 0, 1) := by decide +kernel
theorem dX5_backward_1 : decode cX5_backward 1 = .ok (.istore_n 1, 1) := by decide +kernel
theorem dX5_backward_2 : decode cX5_backward 2 = .ok (.iload_n 1, 1) := by decide +kernel
theorem dX5_backward_3 : decode cX5_backward 3 = .ok (.aload_n 0, 1) := by decide +kernel
theorem dX5_backward_4 : decode cX5_backward 4 = .ok (.getfield 36, 3) := by decide +kernel
theorem dX5_backward_7 : decode cX5_backward 7 = .ok (.if_icmp .ge 43, 3) := by decide +kernel
theorem dX5_backward_10 : decode cX5_backward 10 = .ok (.aload_n 0, 1) := by decide +kernel
theorem dX5_backward_11 : decode cX5_backward 11 = .ok (.getfield 29, 3) := by decide +kernel
theorem dX5_backward_14 : decode cX5_backward 14 = .ok (.iload_n 1, 1) := by decide +kernel
theorem dX5_backward_15 : decode cX5_backward 15 = .ok (.aload_n 0, 1) := by decide +kernel
theorem dX5_backward_16 : decode cX5_backward 16 = .ok (.getfield 29, 3) := by decide +kernel
theorem dX5_backward_19 : decode cX5_backward 19 = .ok (.iload_n 1, 1) := by decide +kernel
theorem dX5_backward_20 : decode cX5_backward 20 = .ok (.iaload, 1) := by decide +kernel
theorem dX5_backward_21 : decode cX5_backward 21 = .ok (.ifCond .le 14, 3) := by decide +kernel
theorem dX5_backward_24 : decode cX5_backward 24 = .ok (.aload_n 0, 1) := by decide +kernel
theorem dX5_backward_25 : decode cX5_backward 25 = .ok (.getfield 29, 3) := by decide +kernel
theorem dX5_backward_28 : decode cX5_backward 28 = .ok (.iload_n 1, 1) := by decide +kernel
theorem dX5_backward_29 : decode cX5_backward 29 = .ok (.iaload, 1) := by decide +kernel
theorem dX5_backward_30 : decode cX5_backward 30 = .ok (.iconst 1, 1) := by decide +kernel
theorem dX5_backward_31 : decode cX5_backward 31 = .ok (.isub, 1) := by decide +kernel
theorem dX5_backward_32 : decode cX5_backward 32 = .ok (.goto 11, 3) := by decide +kernel
theorem dX5_backward_35 : decode cX5_backward 35 = .ok (.aload_n 0, 1) := by decide +kernel
theorem dX5_backward_36 : decode cX5_backward 36 = .ok (.getfield 11, 3) := by decide +kernel
theorem dX5_backward_39 : decode cX5_backward 39 = .ok (.iload_n 1, 1) := by decide +kernel
theorem dX5_backward_40 : decode cX5_backward 40 = .ok (.iaload, 1) := by decide +kernel
theorem dX5_backward_41 : decode cX5_backward 41 = .ok (.iconst 1, 1) := by decide +kernel
theorem dX5_backward_42 : decode cX5_backward 42 = .ok (.isub, 1) := by decide +kernel
theorem dX5_backward_43 : decode cX5_backward 43 = .ok (.iastore, 1) := by decide +kernel
theorem dX5_backward_44 : decode cX5_backward 44 = .ok (.iinc 1 1, 3) := by decide +kernel
theorem dX5_backward_47 : decode cX5_backward 47 = .ok (.goto (-45), 3) := by decide +kernel
theorem dX5_backward_50 : decode cX5_backward 50 = .ok (.return_, 1) := by decide +kernel
set_option maxRecDepth 100000 in
theorem ggX5_word_X5_look : GoodIn wsX5_word wsX5_look := goodIn_r _ [7, 8, 9, 10, 11, 6, 12, 13, 14, 15, 16, 17, 18, 19, 20, 21, 22, 23, 24, 25, 26, 27, 28, 29, 30, 31, 32, 33, 34, 35, 36, 37, 38, 39, 40, 41, 42, 43, 44, 45, 46, 47, 48, 49, 50, 51, 52, 53, 54, 55, 56, 57, 58, 59, 60, 61, 62, 63, 64, 65, 66, 67, 68, 69, 70, 71, 72, 73] rfl gd_wsX5_look
set_option maxRecDepth 100000 in
theorem gX5_word_X5_look : GoodIn wsX5_word (wsV RX5 86 RX5 yX5_look wsX5_look) := goodIn_app (goodIn_r _ [3, 4, 5, 6] rfl (by decide +kernel)) ggX5_word_X5_look
theorem dX5_word_0 : decode cX5_word 0 = .ok (.iconst 0, 1) := by decide +kernel
theorem dX5_word_1 : decode cX5_word 1 = .ok (.istore_n 1, 1) := by decide +kernel
theorem dX5_word_2 : decode cX5_word 2 = .ok (.iconst 0, 1) := by decide +kernel
theorem dX5_word_3 : decode cX5_word 3 = .ok (.istore_n 2, 1) := by decide +kernel
theorem dX5_word_4 : decode cX5_word 4 = .ok (.iconst 1, 1) := by decide +kernel
theorem dX5_word_5 : decode cX5_word 5 = .ok (.istore_n 3, 1) := by decide +kernel
theorem dX5_word_6 : decode cX5_word 6 = .ok (.iload_n 3, 1) := by decide +kernel
theorem dX5_word_7 : decode cX5_word 7 = .ok (.aload_n 0, 1) := by decide +kernel
theorem dX5_word_8 : decode cX5_word 8 = .ok (.getfield 36, 3) := by decide +kernel
theorem dX5_word_11 : decode cX5_word 11 = .ok (.if_icmp .ge 54, 3) := by decide +kernel
theorem dX5_word_14 : decode cX5_word 14 = .ok (.iconst 0, 1) := by decide +kernel
theorem dX5_word_15 : decode cX5_word 15 = .ok (.istore 4, 2) := by decide +kernel
theorem dX5_word_17 : decode cX5_word 17 = .ok (.iload 4, 2) := by decide +kernel
theorem dX5_word_19 : decode cX5_word 19 = .ok (.iload_n 3, 1) := by decide +kernel
theorem dX5_word_20 : decode cX5_word 20 = .ok (.if_icmp .ge 39, 3) := by decide +kernel
theorem dX5_word_23 : decode cX5_word 23 = .ok (.aload_n 0, 1) := by decide +kernel
theorem dX5_word_24 : decode cX5_word 24 = .ok (.iload_n 2, 1) := by decide +kernel
theorem dX5_word_25 : decode cX5_word 25 = .ok (.aload_n 0, 1) := by decide +kernel
theorem dX5_word_26 : decode cX5_word 26 = .ok (.getfield 29, 3) := by decide +kernel
theorem dX5_word_29 : decode cX5_word 29 = .ok (.iload 4, 2) := by decide +kernel
theorem dX5_word_31 : decode cX5_word 31 = .ok (.iaload, 1) := by decide +kernel
theorem dX5_word_32 : decode cX5_word 32 = .ok (.aload_n 0, 1) := by decide +kernel
theorem dX5_word_33 : decode cX5_word 33 = .ok (.getfield 29, 3) := by decide +kernel
theorem dX5_word_36 : decode cX5_word 36 = .ok (.iload_n 3, 1) := by decide +kernel
theorem dX5_word_37 : decode cX5_word 37 = .ok (.iaload, 1) := by decide +kernel
theorem dX5_word_38 : decode cX5_word 38 = .ok (.invokevirtual 86, 3) := by decide +kernel
theorem dX5_word_41 : decode cX5_word 41 = .ok (.ifCond .eq 9, 3) := by decide +kernel
theorem dX5_word_44 : decode cX5_word 44 = .ok (.iload_n 1, 1) := by decide +kernel
theorem dX5_word_45 : decode cX5_word 45 = .ok (.iconst 1, 1) := by decide +kernel
theorem dX5_word_46 : decode cX5_word 46 = .ok (.iload_n 2, 1) := by decide +kernel
theorem dX5_word_47 : decode cX5_word 47 = .ok (.ishl, 1) := by decide +kernel
theorem dX5_word_48 : decode cX5_word 48 = .ok (.ior, 1) := by decide +kernel
theorem dX5_word_49 : decode cX5_word 49 = .ok (.istore_n 1, 1) := by decide +kernel
theorem dX5_word_50 : decode cX5_word 50 = .ok (.iinc 2 1, 3) := by decide +kernel
theorem dX5_word_53 : decode cX5_word 53 = .ok (.iinc 4 1, 3) := by decide +kernel
theorem dX5_word_56 : decode cX5_word 56 = .ok (.goto (-39), 3) := by decide +kernel
theorem dX5_word_59 : decode cX5_word 59 = .ok (.iinc 3 1, 3) := by decide +kernel
theorem dX5_word_62 : decode cX5_word 62 = .ok (.goto (-56), 3) := by decide +kernel
theorem dX5_word_65 : decode cX5_word 65 = .ok (.iload_n 1, 1) := by decide +kernel
theorem dX5_word_66 : decode cX5_word 66 = .ok (.ireturn, 1) := by decide +kernel
set_option maxRecDepth 100000 in
theorem ggX5_allMeet_X5_look : GoodIn wsX5_allMeet wsX5_look := goodIn_r _ [7, 8, 9, 10, 11, 6, 12, 13, 14, 15, 16, 17, 18, 19, 20, 21, 22, 23, 24, 25, 26, 27, 28, 29, 30, 31, 32, 33, 34, 35, 36, 37, 38, 39, 40, 41, 42, 43, 44, 45, 46, 47, 48, 49, 50, 51, 52, 53, 54, 55, 56, 57, 58, 59, 60, 61, 62, 63, 64, 65, 66, 67, 68, 69, 70, 71, 72, 73] rfl gd_wsX5_look
set_option maxRecDepth 100000 in
theorem gX5_allMeet_X5_look : GoodIn wsX5_allMeet (wsV RX5 86 RX5 yX5_look wsX5_look) := goodIn_app (goodIn_r _ [3, 4, 5, 6] rfl (by decide +kernel)) ggX5_allMeet_X5_look
theorem dX5_allMeet_0 : decode cX5_allMeet 0 = .ok (.iconst 0, 1) := by decide +kernel
theorem dX5_allMeet_1 : decode cX5_allMeet 1 = .ok (.istore_n 1, 1) := by decide +kernel
theorem dX5_allMeet_2 : decode cX5_allMeet 2 = .ok (.iconst 1, 1) := by decide +kernel
theorem dX5_allMeet_3 : decode cX5_allMeet 3 = .ok (.istore_n 2, 1) := by decide +kernel
theorem dX5_allMeet_4 : decode cX5_allMeet 4 = .ok (.iload_n 2, 1) := by decide +kernel
theorem dX5_allMeet_5 : decode cX5_allMeet 5 = .ok (.aload_n 0, 1) := by decide +kernel
theorem dX5_allMeet_6 : decode cX5_allMeet 6 = .ok (.getfield 36, 3) := by decide +kernel
theorem dX5_allMeet_9 : decode cX5_allMeet 9 = .ok (.if_icmp .ge 47, 3) := by decide +kernel
theorem dX5_allMeet_12 : decode cX5_allMeet 12 = .ok (.iconst 0, 1) := by decide +kernel
theorem dX5_allMeet_13 : decode cX5_allMeet 13 = .ok (.istore_n 3, 1) := by decide +kernel
theorem dX5_allMeet_14 : decode cX5_allMeet 14 = .ok (.iload_n 3, 1) := by decide +kernel
theorem dX5_allMeet_15 : decode cX5_allMeet 15 = .ok (.iload_n 2, 1) := by decide +kernel
theorem dX5_allMeet_16 : decode cX5_allMeet 16 = .ok (.if_icmp .ge 34, 3) := by decide +kernel
theorem dX5_allMeet_19 : decode cX5_allMeet 19 = .ok (.aload_n 0, 1) := by decide +kernel
theorem dX5_allMeet_20 : decode cX5_allMeet 20 = .ok (.iload_n 1, 1) := by decide +kernel
theorem dX5_allMeet_21 : decode cX5_allMeet 21 = .ok (.aload_n 0, 1) := by decide +kernel
theorem dX5_allMeet_22 : decode cX5_allMeet 22 = .ok (.getfield 29, 3) := by decide +kernel
theorem dX5_allMeet_25 : decode cX5_allMeet 25 = .ok (.iload_n 3, 1) := by decide +kernel
theorem dX5_allMeet_26 : decode cX5_allMeet 26 = .ok (.iaload, 1) := by decide +kernel
theorem dX5_allMeet_27 : decode cX5_allMeet 27 = .ok (.aload_n 0, 1) := by decide +kernel
theorem dX5_allMeet_28 : decode cX5_allMeet 28 = .ok (.getfield 29, 3) := by decide +kernel
theorem dX5_allMeet_31 : decode cX5_allMeet 31 = .ok (.iload_n 2, 1) := by decide +kernel
theorem dX5_allMeet_32 : decode cX5_allMeet 32 = .ok (.iaload, 1) := by decide +kernel
theorem dX5_allMeet_33 : decode cX5_allMeet 33 = .ok (.invokevirtual 86, 3) := by decide +kernel
theorem dX5_allMeet_36 : decode cX5_allMeet 36 = .ok (.ifCond .ne 5, 3) := by decide +kernel
theorem dX5_allMeet_39 : decode cX5_allMeet 39 = .ok (.iconst 0, 1) := by decide +kernel
theorem dX5_allMeet_40 : decode cX5_allMeet 40 = .ok (.ireturn, 1) := by decide +kernel
theorem dX5_allMeet_41 : decode cX5_allMeet 41 = .ok (.iinc 1 1, 3) := by decide +kernel
theorem dX5_allMeet_44 : decode cX5_allMeet 44 = .ok (.iinc 3 1, 3) := by decide +kernel
theorem dX5_allMeet_47 : decode cX5_allMeet 47 = .ok (.goto (-33), 3) := by decide +kernel
theorem dX5_allMeet_50 : decode cX5_allMeet 50 = .ok (.iinc 2 1, 3) := by decide +kernel
theorem dX5_allMeet_53 : decode cX5_allMeet 53 = .ok (.goto (-49), 3) := by decide +kernel
theorem dX5_allMeet_56 : decode cX5_allMeet 56 = .ok (.iconst 1, 1) := by decide +kernel
theorem dX5_allMeet_57 : decode cX5_allMeet 57 = .ok (.ireturn, 1) := by decide +kernel
theorem dX5_pairs_0 : decode cX5_pairs 0 = .ok (.aload_n 0, 1) := by decide +kernel
theorem dX5_pairs_1 : decode cX5_pairs 1 = .ok (.getfield 36, 3) := by decide +kernel
theorem dX5_pairs_4 : decode cX5_pairs 4 = .ok (.iconst 2, 1) := by decide +kernel
theorem dX5_pairs_5 : decode cX5_pairs 5 = .ok (.if_icmp .ge 7, 3) := by decide +kernel
theorem dX5_pairs_8 : decode cX5_pairs 8 = .ok (.iconst 0, 1) := by decide +kernel
theorem dX5_pairs_9 : decode cX5_pairs 9 = .ok (.goto 16, 3) := by decide +kernel
theorem dX5_pairs_12 : decode cX5_pairs 12 = .ok (.aload_n 0, 1) := by decide +kernel
theorem dX5_pairs_13 : decode cX5_pairs 13 = .ok (.getfield 36, 3) := by decide +kernel
theorem dX5_pairs_16 : decode cX5_pairs 16 = .ok (.aload_n 0, 1) := by decide +kernel
theorem dX5_pairs_17 : decode cX5_pairs 17 = .ok (.getfield 36, 3) := by decide +kernel
theorem dX5_pairs_20 : decode cX5_pairs 20 = .ok (.iconst 1, 1) := by decide +kernel
theorem dX5_pairs_21 : decode cX5_pairs 21 = .ok (.isub, 1) := by decide +kernel
theorem dX5_pairs_22 : decode cX5_pairs 22 = .ok (.imul, 1) := by decide +kernel
theorem dX5_pairs_23 : decode cX5_pairs 23 = .ok (.iconst 2, 1) := by decide +kernel
theorem dX5_pairs_24 : decode cX5_pairs 24 = .ok (.idiv, 1) := by decide +kernel
theorem dX5_pairs_25 : decode cX5_pairs 25 = .ok (.ireturn, 1) := by decide +kernel
set_option maxRecDepth 20000 in
theorem gd_wsX5_pairs : wsX5_pairs.all goodWord = true := by decide +kernel
set_option maxRecDepth 100000 in
theorem ggX5_besides_X5_pairs : GoodIn wsX5_besides wsX5_pairs := goodIn_r _ [7, 8, 9, 10, 11, 12, 13, 14, 15, 16, 17, 18, 19] rfl gd_wsX5_pairs
set_option maxRecDepth 100000 in
theorem gX5_besides_X5_pairs : GoodIn wsX5_besides (wsV RX5 110 RX5 yX5_pairs wsX5_pairs) := goodIn_app (goodIn_r _ [3, 4, 5, 6] rfl (by decide +kernel)) ggX5_besides_X5_pairs
theorem dX5_besides_0 : decode cX5_besides 0 = .ok (.iload_n 1, 1) := by decide +kernel
theorem dX5_besides_1 : decode cX5_besides 1 = .ok (.istore_n 3, 1) := by decide +kernel
theorem dX5_besides_2 : decode cX5_besides 2 = .ok (.aload_n 0, 1) := by decide +kernel
theorem dX5_besides_3 : decode cX5_besides 3 = .ok (.invokevirtual 110, 3) := by decide +kernel
theorem dX5_besides_6 : decode cX5_besides 6 = .ok (.istore 4, 2) := by decide +kernel
theorem dX5_besides_8 : decode cX5_besides 8 = .ok (.iconst 0, 1) := by decide +kernel
theorem dX5_besides_9 : decode cX5_besides 9 = .ok (.istore 5, 2) := by decide +kernel
theorem dX5_besides_11 : decode cX5_besides 11 = .ok (.iload 5, 2) := by decide +kernel
theorem dX5_besides_13 : decode cX5_besides 13 = .ok (.iload 4, 2) := by decide +kernel
theorem dX5_besides_15 : decode cX5_besides 15 = .ok (.if_icmp .ge 49, 3) := by decide +kernel
theorem dX5_besides_18 : decode cX5_besides 18 = .ok (.iload_n 2, 1) := by decide +kernel
theorem dX5_besides_19 : decode cX5_besides 19 = .ok (.iload 5, 2) := by decide +kernel
theorem dX5_besides_21 : decode cX5_besides 21 = .ok (.iushr, 1) := by decide +kernel
theorem dX5_besides_22 : decode cX5_besides 22 = .ok (.iconst 1, 1) := by decide +kernel
theorem dX5_besides_23 : decode cX5_besides 23 = .ok (.iand, 1) := by decide +kernel
theorem dX5_besides_24 : decode cX5_besides 24 = .ok (.ifCond .eq 34, 3) := by decide +kernel
theorem dX5_besides_27 : decode cX5_besides 27 = .ok (.iconst 1, 1) := by decide +kernel
theorem dX5_besides_28 : decode cX5_besides 28 = .ok (.getstatic 56, 3) := by decide +kernel
theorem dX5_besides_31 : decode cX5_besides 31 = .ok (.iload 5, 2) := by decide +kernel
theorem dX5_besides_33 : decode cX5_besides 33 = .ok (.iaload, 1) := by decide +kernel
theorem dX5_besides_34 : decode cX5_besides 34 = .ok (.ishl, 1) := by decide +kernel
theorem dX5_besides_35 : decode cX5_besides 35 = .ok (.iconst 1, 1) := by decide +kernel
theorem dX5_besides_36 : decode cX5_besides 36 = .ok (.getstatic 59, 3) := by decide +kernel
theorem dX5_besides_39 : decode cX5_besides 39 = .ok (.iload 5, 2) := by decide +kernel
theorem dX5_besides_41 : decode cX5_besides 41 = .ok (.iaload, 1) := by decide +kernel
theorem dX5_besides_42 : decode cX5_besides 42 = .ok (.ishl, 1) := by decide +kernel
theorem dX5_besides_43 : decode cX5_besides 43 = .ok (.ior, 1) := by decide +kernel
theorem dX5_besides_44 : decode cX5_besides 44 = .ok (.istore 6, 2) := by decide +kernel
theorem dX5_besides_46 : decode cX5_besides 46 = .ok (.iload_n 1, 1) := by decide +kernel
theorem dX5_besides_47 : decode cX5_besides 47 = .ok (.iload 6, 2) := by decide +kernel
theorem dX5_besides_49 : decode cX5_besides 49 = .ok (.iand, 1) := by decide +kernel
theorem dX5_besides_50 : decode cX5_besides 50 = .ok (.ifCond .eq 8, 3) := by decide +kernel
theorem dX5_besides_53 : decode cX5_besides 53 = .ok (.iload_n 3, 1) := by decide +kernel
theorem dX5_besides_54 : decode cX5_besides 54 = .ok (.iload 6, 2) := by decide +kernel
theorem dX5_besides_56 : decode cX5_besides 56 = .ok (.ior, 1) := by decide +kernel
theorem dX5_besides_57 : decode cX5_besides 57 = .ok (.istore_n 3, 1) := by decide +kernel
theorem dX5_besides_58 : decode cX5_besides 58 = .ok (.iinc 5 1, 3) := by decide +kernel
theorem dX5_besides_61 : decode cX5_besides 61 = .ok (.goto (-50), 3) := by decide +kernel
theorem dX5_besides_64 : decode cX5_besides 64 = .ok (.iload_n 3, 1) := by decide +kernel
theorem dX5_besides_65 : decode cX5_besides 65 = .ok (.ireturn, 1) := by decide +kernel
set_option maxRecDepth 20000 in
theorem gd_wsX5_besides : wsX5_besides.all goodWord = true := by decide +kernel
set_option maxRecDepth 100000 in
theorem ggX5_reached_X5_besides : GoodIn wsX5_reached wsX5_besides := goodIn_r _ [5, 6, 7, 8, 9, 10, 4, 11, 12, 13, 14, 15, 16, 17, 18, 19, 20, 21, 22, 23] rfl gd_wsX5_besides
set_option maxRecDepth 100000 in
theorem gX5_reached_X5_besides : GoodIn wsX5_reached (wsV RX5 113 RX5 yX5_besides wsX5_besides) := goodIn_app (goodIn_r _ [1, 2, 3, 4] rfl (by decide +kernel)) ggX5_reached_X5_besides
theorem dX5_reached_0 : decode cX5_reached 0 = .ok (.iconst 1, 1) := by decide +kernel
theorem dX5_reached_1 : decode cX5_reached 1 = .ok (.iload_n 1, 1) := by decide +kernel
theorem dX5_reached_2 : decode cX5_reached 2 = .ok (.ishl, 1) := by decide +kernel
theorem dX5_reached_3 : decode cX5_reached 3 = .ok (.istore_n 3, 1) := by decide +kernel
theorem dX5_reached_4 : decode cX5_reached 4 = .ok (.iconst 0, 1) := by decide +kernel
theorem dX5_reached_5 : decode cX5_reached 5 = .ok (.istore 4, 2) := by decide +kernel
theorem dX5_reached_7 : decode cX5_reached 7 = .ok (.iload 4, 2) := by decide +kernel
theorem dX5_reached_9 : decode cX5_reached 9 = .ok (.bipush 7, 2) := by decide +kernel
theorem dX5_reached_11 : decode cX5_reached 11 = .ok (.if_icmp .ge 29, 3) := by decide +kernel
theorem dX5_reached_14 : decode cX5_reached 14 = .ok (.aload_n 0, 1) := by decide +kernel
theorem dX5_reached_15 : decode cX5_reached 15 = .ok (.iload_n 3, 1) := by decide +kernel
theorem dX5_reached_16 : decode cX5_reached 16 = .ok (.iload_n 2, 1) := by decide +kernel
theorem dX5_reached_17 : decode cX5_reached 17 = .ok (.invokevirtual 113, 3) := by decide +kernel
theorem dX5_reached_20 : decode cX5_reached 20 = .ok (.istore 5, 2) := by decide +kernel
theorem dX5_reached_22 : decode cX5_reached 22 = .ok (.iload 5, 2) := by decide +kernel
theorem dX5_reached_24 : decode cX5_reached 24 = .ok (.iload_n 3, 1) := by decide +kernel
theorem dX5_reached_25 : decode cX5_reached 25 = .ok (.if_icmp .ne 6, 3) := by decide +kernel
theorem dX5_reached_28 : decode cX5_reached 28 = .ok (.goto 12, 3) := by decide +kernel
theorem dX5_reached_31 : decode cX5_reached 31 = .ok (.iload 5, 2) := by decide +kernel
theorem dX5_reached_33 : decode cX5_reached 33 = .ok (.istore_n 3, 1) := by decide +kernel
theorem dX5_reached_34 : decode cX5_reached 34 = .ok (.iinc 4 1, 3) := by decide +kernel
theorem dX5_reached_37 : decode cX5_reached 37 = .ok (.goto (-30), 3) := by decide +kernel
theorem dX5_reached_40 : decode cX5_reached 40 = .ok (.iload_n 3, 1) := by decide +kernel
theorem dX5_reached_41 : decode cX5_reached 41 = .ok (.ireturn, 1) := by decide +kernel
set_option maxRecDepth 100000 in
theorem ggX5_everLed_X5_pairs : GoodIn wsX5_everLed wsX5_pairs := goodIn_r _ [9, 10, 81, 82, 83, 84, 85, 86, 87, 88, 89, 90, 91] rfl gd_wsX5_pairs
set_option maxRecDepth 100000 in
theorem gX5_everLed_X5_pairs : GoodIn wsX5_everLed (wsV RX5 110 RX5 yX5_pairs wsX5_pairs) := goodIn_app (goodIn_r _ [5, 6, 7, 8] rfl (by decide +kernel)) ggX5_everLed_X5_pairs
set_option maxRecDepth 20000 in
theorem gd_wsX5_roundOfTwo : wsX5_roundOfTwo.all goodWord = true := by decide +kernel
set_option maxRecDepth 100000 in
theorem ggX5_everLed_X5_roundOfTwo : GoodIn wsX5_everLed wsX5_roundOfTwo := goodIn_r _ [14, 15, 16, 17, 18, 19, 20, 21, 81, 82, 83, 84, 85, 86, 87, 88, 89, 90, 91] rfl gd_wsX5_roundOfTwo
set_option maxRecDepth 100000 in
theorem gX5_everLed_X5_roundOfTwo : GoodIn wsX5_everLed (wsV RX5 119 RX5 yX5_roundOfTwo wsX5_roundOfTwo) := goodIn_app (goodIn_r _ [11, 12, 13, 8] rfl (by decide +kernel)) ggX5_everLed_X5_roundOfTwo
set_option maxRecDepth 100000 in
theorem ggX5_everLed_X5_phase : GoodIn wsX5_everLed wsX5_phase := goodIn_r _ [25, 26, 15, 27, 17, 28, 81, 82, 83, 84, 85, 86, 87, 88, 89, 90, 91] rfl gd_wsX5_phase
set_option maxRecDepth 100000 in
theorem gX5_everLed_X5_phase : GoodIn wsX5_everLed (wsV RX5 69 RX5 yX5_phase wsX5_phase) := goodIn_app (goodIn_r _ [22, 23, 24, 8] rfl (by decide +kernel)) ggX5_everLed_X5_phase
set_option maxRecDepth 100000 in
theorem ggX5_everLed_X5_look : GoodIn wsX5_everLed wsX5_look := goodIn_r _ [32, 33, 34, 35, 36, 8, 37, 3, 4, 38, 39, 40, 41, 42, 43, 44, 45, 46, 47, 48, 49, 50, 51, 52, 15, 53, 54, 55, 56, 57, 58, 59, 60, 61, 62, 63, 64, 65, 66, 67, 68, 69, 70, 71, 72, 81, 82, 83, 84, 85, 86, 87, 88, 89, 90, 91, 92, 93, 94, 95, 96, 97, 98, 99, 100, 101, 102, 103] rfl gd_wsX5_look
set_option maxRecDepth 100000 in
theorem gX5_everLed_X5_look : GoodIn wsX5_everLed (wsV RX5 86 RX5 yX5_look wsX5_look) := goodIn_app (goodIn_r _ [29, 30, 31, 8] rfl (by decide +kernel)) ggX5_everLed_X5_look
set_option maxRecDepth 20000 in
theorem gd_wsX5_reached : wsX5_reached.all goodWord = true := by decide +kernel
set_option maxRecDepth 100000 in
theorem ggX5_everLed_X5_reached : GoodIn wsX5_everLed wsX5_reached := goodIn_r _ [76, 77, 78, 79, 8, 80, 3, 4, 5, 6, 7, 9, 10, 81, 82, 83, 84, 85, 86, 87, 88, 89, 90, 91] rfl gd_wsX5_reached
set_option maxRecDepth 100000 in
theorem gX5_everLed_X5_reached : GoodIn wsX5_everLed (wsV RX5 122 RX5 yX5_reached wsX5_reached) := goodIn_app (goodIn_r _ [73, 74, 75, 8] rfl (by decide +kernel)) ggX5_everLed_X5_reached
theorem dX5_everLed_0 : decode cX5_everLed 0 = .ok (.aload_n 0, 1) := by decide +kernel
theorem dX5_everLed_1 : decode cX5_everLed 1 = .ok (.getfield 49, 3) := by decide +kernel
theorem dX5_everLed_4 : decode cX5_everLed 4 = .ok (.ifCond .ne 125, 3) := by decide +kernel
theorem dX5_everLed_7 : decode cX5_everLed 7 = .ok (.aload_n 0, 1) := by decide +kernel
theorem dX5_everLed_8 : decode cX5_everLed 8 = .ok (.iconst 0, 1) := by decide +kernel
theorem dX5_everLed_9 : decode cX5_everLed 9 = .ok (.putfield 116, 3) := by decide +kernel
theorem dX5_everLed_12 : decode cX5_everLed 12 = .ok (.aload_n 0, 1) := by decide +kernel
theorem dX5_everLed_13 : decode cX5_everLed 13 = .ok (.invokevirtual 110, 3) := by decide +kernel
theorem dX5_everLed_16 : decode cX5_everLed 16 = .ok (.istore_n 3, 1) := by decide +kernel
theorem dX5_everLed_17 : decode cX5_everLed 17 = .ok (.iconst 0, 1) := by decide +kernel
theorem dX5_everLed_18 : decode cX5_everLed 18 = .ok (.istore 4, 2) := by decide +kernel
theorem dX5_everLed_20 : decode cX5_everLed 20 = .ok (.iload 4, 2) := by decide +kernel
theorem dX5_everLed_22 : decode cX5_everLed 22 = .ok (.iload_n 3, 1) := by decide +kernel
theorem dX5_everLed_23 : decode cX5_everLed 23 = .ok (.if_icmp .ge 101, 3) := by decide +kernel
theorem dX5_everLed_26 : decode cX5_everLed 26 = .ok (.aload_n 0, 1) := by decide +kernel
theorem dX5_everLed_27 : decode cX5_everLed 27 = .ok (.getstatic 56, 3) := by decide +kernel
theorem dX5_everLed_30 : decode cX5_everLed 30 = .ok (.iload 4, 2) := by decide +kernel
theorem dX5_everLed_32 : decode cX5_everLed 32 = .ok (.iaload, 1) := by decide +kernel
theorem dX5_everLed_33 : decode cX5_everLed 33 = .ok (.getstatic 59, 3) := by decide +kernel
theorem dX5_everLed_36 : decode cX5_everLed 36 = .ok (.iload 4, 2) := by decide +kernel
theorem dX5_everLed_38 : decode cX5_everLed 38 = .ok (.iaload, 1) := by decide +kernel
theorem dX5_everLed_39 : decode cX5_everLed 39 = .ok (.invokevirtual 119, 3) := by decide +kernel
theorem dX5_everLed_42 : decode cX5_everLed 42 = .ok (.istore 5, 2) := by decide +kernel
theorem dX5_everLed_44 : decode cX5_everLed 44 = .ok (.iconst 0, 1) := by decide +kernel
theorem dX5_everLed_45 : decode cX5_everLed 45 = .ok (.istore 6, 2) := by decide +kernel
theorem dX5_everLed_47 : decode cX5_everLed 47 = .ok (.iload 6, 2) := by decide +kernel
theorem dX5_everLed_49 : decode cX5_everLed 49 = .ok (.iload 5, 2) := by decide +kernel
theorem dX5_everLed_51 : decode cX5_everLed 51 = .ok (.if_icmp .ge 67, 3) := by decide +kernel
theorem dX5_everLed_54 : decode cX5_everLed 54 = .ok (.aload_n 0, 1) := by decide +kernel
theorem dX5_everLed_55 : decode cX5_everLed 55 = .ok (.getfield 116, 3) := by decide +kernel
theorem dX5_everLed_58 : decode cX5_everLed 58 = .ok (.iload 4, 2) := by decide +kernel
theorem dX5_everLed_60 : decode cX5_everLed 60 = .ok (.iushr, 1) := by decide +kernel
theorem dX5_everLed_61 : decode cX5_everLed 61 = .ok (.iconst 1, 1) := by decide +kernel
theorem dX5_everLed_62 : decode cX5_everLed 62 = .ok (.iand, 1) := by decide +kernel
theorem dX5_everLed_63 : decode cX5_everLed 63 = .ok (.ifCond .ne 55, 3) := by decide +kernel
theorem dX5_everLed_66 : decode cX5_everLed 66 = .ok (.aload_n 0, 1) := by decide +kernel
theorem dX5_everLed_67 : decode cX5_everLed 67 = .ok (.iload 4, 2) := by decide +kernel
theorem dX5_everLed_69 : decode cX5_everLed 69 = .ok (.aload_n 0, 1) := by decide +kernel
theorem dX5_everLed_70 : decode cX5_everLed 70 = .ok (.getstatic 56, 3) := by decide +kernel
theorem dX5_everLed_73 : decode cX5_everLed 73 = .ok (.iload 4, 2) := by decide +kernel
theorem dX5_everLed_75 : decode cX5_everLed 75 = .ok (.iaload, 1) := by decide +kernel
theorem dX5_everLed_76 : decode cX5_everLed 76 = .ok (.iload 6, 2) := by decide +kernel
theorem dX5_everLed_78 : decode cX5_everLed 78 = .ok (.invokevirtual 69, 3) := by decide +kernel
theorem dX5_everLed_81 : decode cX5_everLed 81 = .ok (.aload_n 0, 1) := by decide +kernel
theorem dX5_everLed_82 : decode cX5_everLed 82 = .ok (.getstatic 59, 3) := by decide +kernel
theorem dX5_everLed_85 : decode cX5_everLed 85 = .ok (.iload 4, 2) := by decide +kernel
theorem dX5_everLed_87 : decode cX5_everLed 87 = .ok (.iaload, 1) := by decide +kernel
theorem dX5_everLed_88 : decode cX5_everLed 88 = .ok (.iload 6, 2) := by decide +kernel
theorem dX5_everLed_90 : decode cX5_everLed 90 = .ok (.invokevirtual 69, 3) := by decide +kernel
theorem dX5_everLed_93 : decode cX5_everLed 93 = .ok (.invokevirtual 86, 3) := by decide +kernel
theorem dX5_everLed_96 : decode cX5_everLed 96 = .ok (.ifCond .eq 16, 3) := by decide +kernel
theorem dX5_everLed_99 : decode cX5_everLed 99 = .ok (.aload_n 0, 1) := by decide +kernel
theorem dX5_everLed_100 : decode cX5_everLed 100 = .ok (.dup, 1) := by decide +kernel
theorem dX5_everLed_101 : decode cX5_everLed 101 = .ok (.getfield 116, 3) := by decide +kernel
theorem dX5_everLed_104 : decode cX5_everLed 104 = .ok (.iconst 1, 1) := by decide +kernel
theorem dX5_everLed_105 : decode cX5_everLed 105 = .ok (.iload 4, 2) := by decide +kernel
theorem dX5_everLed_107 : decode cX5_everLed 107 = .ok (.ishl, 1) := by decide +kernel
theorem dX5_everLed_108 : decode cX5_everLed 108 = .ok (.ior, 1) := by decide +kernel
theorem dX5_everLed_109 : decode cX5_everLed 109 = .ok (.putfield 116, 3) := by decide +kernel
theorem dX5_everLed_112 : decode cX5_everLed 112 = .ok (.iinc 6 1, 3) := by decide +kernel
theorem dX5_everLed_115 : decode cX5_everLed 115 = .ok (.goto (-68), 3) := by decide +kernel
theorem dX5_everLed_118 : decode cX5_everLed 118 = .ok (.iinc 4 1, 3) := by decide +kernel
theorem dX5_everLed_121 : decode cX5_everLed 121 = .ok (.goto (-101), 3) := by decide +kernel
theorem dX5_everLed_124 : decode cX5_everLed 124 = .ok (.aload_n 0, 1) := by decide +kernel
theorem dX5_everLed_125 : decode cX5_everLed 125 = .ok (.iconst 1, 1) := by decide +kernel
theorem dX5_everLed_126 : decode cX5_everLed 126 = .ok (.putfield 49, 3) := by decide +kernel
theorem dX5_everLed_129 : decode cX5_everLed 129 = .ok (.aload_n 0, 1) := by decide +kernel
theorem dX5_everLed_130 : decode cX5_everLed 130 = .ok (.iload_n 1, 1) := by decide +kernel
theorem dX5_everLed_131 : decode cX5_everLed 131 = .ok (.aload_n 0, 1) := by decide +kernel
theorem dX5_everLed_132 : decode cX5_everLed 132 = .ok (.getfield 116, 3) := by decide +kernel
theorem dX5_everLed_135 : decode cX5_everLed 135 = .ok (.invokevirtual 122, 3) := by decide +kernel
theorem dX5_everLed_138 : decode cX5_everLed 138 = .ok (.iconst 1, 1) := by decide +kernel
theorem dX5_everLed_139 : decode cX5_everLed 139 = .ok (.iload_n 2, 1) := by decide +kernel
theorem dX5_everLed_140 : decode cX5_everLed 140 = .ok (.ishl, 1) := by decide +kernel
theorem dX5_everLed_141 : decode cX5_everLed 141 = .ok (.iand, 1) := by decide +kernel
theorem dX5_everLed_142 : decode cX5_everLed 142 = .ok (.ifCond .eq 7, 3) := by decide +kernel
theorem dX5_everLed_145 : decode cX5_everLed 145 = .ok (.iconst 1, 1) := by decide +kernel
theorem dX5_everLed_146 : decode cX5_everLed 146 = .ok (.goto 4, 3) := by decide +kernel
theorem dX5_everLed_149 : decode cX5_everLed 149 = .ok (.iconst 0, 1) := by decide +kernel
theorem dX5_everLed_150 : decode cX5_everLed 150 = .ok (.ireturn, 1) := by decide +kernel
set_option maxRecDepth 20000 in
theorem gd_wsX5_placeAt : wsX5_placeAt.all goodWord = true := by decide +kernel
set_option maxRecDepth 100000 in
theorem ggX5_between_X5_placeAt : GoodIn wsX5_between wsX5_placeAt := goodIn_r _ [6, 7, 8, 9, 5, 10, 11, 12, 13, 14, 15, 16, 17, 18, 19, 20, 21, 22, 23, 24, 25, 26, 27, 28, 29, 30] rfl gd_wsX5_placeAt
set_option maxRecDepth 100000 in
theorem gX5_between_X5_placeAt : GoodIn wsX5_between (wsV RX5 125 RX5 yX5_placeAt wsX5_placeAt) := goodIn_app (goodIn_r _ [2, 3, 4, 5] rfl (by decide +kernel)) ggX5_between_X5_placeAt
theorem dX5_between_0 : decode cX5_between 0 = .ok (.aload_n 0, 1) := by decide +kernel
theorem dX5_between_1 : decode cX5_between 1 = .ok (.iload_n 1, 1) := by decide +kernel
theorem dX5_between_2 : decode cX5_between 2 = .ok (.iload_n 3, 1) := by decide +kernel
theorem dX5_between_3 : decode cX5_between 3 = .ok (.invokevirtual 125, 3) := by decide +kernel
theorem dX5_between_6 : decode cX5_between 6 = .ok (.istore 4, 2) := by decide +kernel
theorem dX5_between_8 : decode cX5_between 8 = .ok (.aload_n 0, 1) := by decide +kernel
theorem dX5_between_9 : decode cX5_between 9 = .ok (.iload_n 2, 1) := by decide +kernel
theorem dX5_between_10 : decode cX5_between 10 = .ok (.iload_n 3, 1) := by decide +kernel
theorem dX5_between_11 : decode cX5_between 11 = .ok (.invokevirtual 125, 3) := by decide +kernel
theorem dX5_between_14 : decode cX5_between 14 = .ok (.istore 5, 2) := by decide +kernel
theorem dX5_between_16 : decode cX5_between 16 = .ok (.iload 5, 2) := by decide +kernel
theorem dX5_between_18 : decode cX5_between 18 = .ok (.iload 4, 2) := by decide +kernel
theorem dX5_between_20 : decode cX5_between 20 = .ok (.isub, 1) := by decide +kernel
theorem dX5_between_21 : decode cX5_between 21 = .ok (.sipush 360, 3) := by decide +kernel
theorem dX5_between_24 : decode cX5_between 24 = .ok (.iadd, 1) := by decide +kernel
theorem dX5_between_25 : decode cX5_between 25 = .ok (.sipush 360, 3) := by decide +kernel
theorem dX5_between_28 : decode cX5_between 28 = .ok (.irem, 1) := by decide +kernel
theorem dX5_between_29 : decode cX5_between 29 = .ok (.istore 6, 2) := by decide +kernel
theorem dX5_between_31 : decode cX5_between 31 = .ok (.iload 6, 2) := by decide +kernel
theorem dX5_between_33 : decode cX5_between 33 = .ok (.ifCond .eq 11, 3) := by decide +kernel
theorem dX5_between_36 : decode cX5_between 36 = .ok (.iload 6, 2) := by decide +kernel
theorem dX5_between_38 : decode cX5_between 38 = .ok (.sipush 180, 3) := by decide +kernel
theorem dX5_between_41 : decode cX5_between 41 = .ok (.if_icmp .ne 5, 3) := by decide +kernel
theorem dX5_between_44 : decode cX5_between 44 = .ok (.iconst 0, 1) := by decide +kernel
theorem dX5_between_45 : decode cX5_between 45 = .ok (.ireturn, 1) := by decide +kernel
theorem dX5_between_46 : decode cX5_between 46 = .ok (.iload 6, 2) := by decide +kernel
theorem dX5_between_48 : decode cX5_between 48 = .ok (.sipush 180, 3) := by decide +kernel
theorem dX5_between_51 : decode cX5_between 51 = .ok (.if_icmp .le 15, 3) := by decide +kernel
theorem dX5_between_54 : decode cX5_between 54 = .ok (.iload 5, 2) := by decide +kernel
theorem dX5_between_56 : decode cX5_between 56 = .ok (.istore 4, 2) := by decide +kernel
theorem dX5_between_58 : decode cX5_between 58 = .ok (.sipush 360, 3) := by decide +kernel
theorem dX5_between_61 : decode cX5_between 61 = .ok (.iload 6, 2) := by decide +kernel
theorem dX5_between_63 : decode cX5_between 63 = .ok (.isub, 1) := by decide +kernel
theorem dX5_between_64 : decode cX5_between 64 = .ok (.istore 6, 2) := by decide +kernel
theorem dX5_between_66 : decode cX5_between 66 = .ok (.iconst 0, 1) := by decide +kernel
theorem dX5_between_67 : decode cX5_between 67 = .ok (.istore 7, 2) := by decide +kernel
theorem dX5_between_69 : decode cX5_between 69 = .ok (.iconst 0, 1) := by decide +kernel
theorem dX5_between_70 : decode cX5_between 70 = .ok (.istore 8, 2) := by decide +kernel
theorem dX5_between_72 : decode cX5_between 72 = .ok (.iload 8, 2) := by decide +kernel
theorem dX5_between_74 : decode cX5_between 74 = .ok (.aload_n 0, 1) := by decide +kernel
theorem dX5_between_75 : decode cX5_between 75 = .ok (.getfield 36, 3) := by decide +kernel
theorem dX5_between_78 : decode cX5_between 78 = .ok (.if_icmp .ge 50, 3) := by decide +kernel
theorem dX5_between_81 : decode cX5_between 81 = .ok (.aload_n 0, 1) := by decide +kernel
theorem dX5_between_82 : decode cX5_between 82 = .ok (.iload 8, 2) := by decide +kernel
theorem dX5_between_84 : decode cX5_between 84 = .ok (.iload_n 3, 1) := by decide +kernel
theorem dX5_between_85 : decode cX5_between 85 = .ok (.invokevirtual 125, 3) := by decide +kernel
theorem dX5_between_88 : decode cX5_between 88 = .ok (.iload 4, 2) := by decide +kernel
theorem dX5_between_90 : decode cX5_between 90 = .ok (.isub, 1) := by decide +kernel
theorem dX5_between_91 : decode cX5_between 91 = .ok (.sipush 360, 3) := by decide +kernel
theorem dX5_between_94 : decode cX5_between 94 = .ok (.iadd, 1) := by decide +kernel
theorem dX5_between_95 : decode cX5_between 95 = .ok (.sipush 360, 3) := by decide +kernel
theorem dX5_between_98 : decode cX5_between 98 = .ok (.irem, 1) := by decide +kernel
theorem dX5_between_99 : decode cX5_between 99 = .ok (.istore 9, 2) := by decide +kernel
theorem dX5_between_101 : decode cX5_between 101 = .ok (.iload 9, 2) := by decide +kernel
theorem dX5_between_103 : decode cX5_between 103 = .ok (.ifCond .le 19, 3) := by decide +kernel
theorem dX5_between_106 : decode cX5_between 106 = .ok (.iload 9, 2) := by decide +kernel
theorem dX5_between_108 : decode cX5_between 108 = .ok (.iload 6, 2) := by decide +kernel
theorem dX5_between_110 : decode cX5_between 110 = .ok (.if_icmp .ge 12, 3) := by decide +kernel
theorem dX5_between_113 : decode cX5_between 113 = .ok (.iload 7, 2) := by decide +kernel
theorem dX5_between_115 : decode cX5_between 115 = .ok (.iconst 1, 1) := by decide +kernel
theorem dX5_between_116 : decode cX5_between 116 = .ok (.iload 8, 2) := by decide +kernel
theorem dX5_between_118 : decode cX5_between 118 = .ok (.ishl, 1) := by decide +kernel
theorem dX5_between_119 : decode cX5_between 119 = .ok (.ior, 1) := by decide +kernel
theorem dX5_between_120 : decode cX5_between 120 = .ok (.istore 7, 2) := by decide +kernel
theorem dX5_between_122 : decode cX5_between 122 = .ok (.iinc 8 1, 3) := by decide +kernel
theorem dX5_between_125 : decode cX5_between 125 = .ok (.goto (-53), 3) := by decide +kernel
theorem dX5_between_128 : decode cX5_between 128 = .ok (.iload 7, 2) := by decide +kernel
theorem dX5_between_130 : decode cX5_between 130 = .ok (.ireturn, 1) := by decide +kernel
theorem dX6_init_0 : decode cX6_init 0 = .ok (.aload_n 0, 1) := by decide +kernel
theorem dX6_init_1 : decode cX6_init 1 = .ok (.invokespecial 3, 3) := by decide +kernel
theorem dX6_init_4 : decode cX6_init 4 = .ok (.aload_n 0, 1) := by decide +kernel
theorem dX6_init_5 : decode cX6_init 5 = .ok (.iconst (-1), 1) := by decide +kernel
theorem dX6_init_6 : decode cX6_init 6 = .ok (.putfield 9, 3) := by decide +kernel
theorem dX6_init_9 : decode cX6_init 9 = .ok (.aload_n 0, 1) := by decide +kernel
theorem dX6_init_10 : decode cX6_init 10 = .ok (.iconst (-1), 1) := by decide +kernel
theorem dX6_init_11 : decode cX6_init 11 = .ok (.putfield 15, 3) := by decide +kernel
theorem dX6_init_14 : decode cX6_init 14 = .ok (.aload_n 0, 1) := by decide +kernel
theorem dX6_init_15 : decode cX6_init 15 = .ok (.sipush 600, 3) := by decide +kernel
theorem dX6_init_18 : decode cX6_init 18 = .ok (.newarray .int, 2) := by decide +kernel
theorem dX6_init_20 : decode cX6_init 20 = .ok (.putfield 18, 3) := by decide +kernel
theorem dX6_init_23 : decode cX6_init 23 = .ok (.aload_n 0, 1) := by decide +kernel
theorem dX6_init_24 : decode cX6_init 24 = .ok (.sipush 3606, 3) := by decide +kernel
theorem dX6_init_27 : decode cX6_init 27 = .ok (.newarray .int, 2) := by decide +kernel
theorem dX6_init_29 : decode cX6_init 29 = .ok (.putfield 22, 3) := by decide +kernel
theorem dX6_init_32 : decode cX6_init 32 = .ok (.aload_n 0, 1) := by decide +kernel
theorem dX6_init_33 : decode cX6_init 33 = .ok (.bipush 7, 2) := by decide +kernel
theorem dX6_init_35 : decode cX6_init 35 = .ok (.newarray .int, 2) := by decide +kernel
theorem dX6_init_37 : decode cX6_init 37 = .ok (.putfield 27, 3) := by decide +kernel
theorem dX6_init_40 : decode cX6_init 40 = .ok (.aload_n 0, 1) := by decide +kernel
theorem dX6_init_41 : decode cX6_init 41 = .ok (.bipush 7, 2) := by decide +kernel
theorem dX6_init_43 : decode cX6_init 43 = .ok (.newarray .int, 2) := by decide +kernel
theorem dX6_init_45 : decode cX6_init 45 = .ok (.putfield 30, 3) := by decide +kernel
theorem dX6_init_48 : decode cX6_init 48 = .ok (.aload_n 0, 1) := by decide +kernel
theorem dX6_init_49 : decode cX6_init 49 = .ok (.aload_n 1, 1) := by decide +kernel
theorem dX6_init_50 : decode cX6_init 50 = .ok (.putfield 33, 3) := by decide +kernel
theorem dX6_init_53 : decode cX6_init 53 = .ok (.return_, 1) := by decide +kernel
set_option maxRecDepth 20000 in
theorem gd_wsX5_everLed : wsX5_everLed.all goodWord = true := by decide +kernel
set_option maxRecDepth 100000 in
theorem ggX6_fewestSteps_X5_everLed : GoodIn wsX6_fewestSteps wsX5_everLed := goodIn_r _ [7, 8, 9, 10, 11, 12, 13, 14, 6, 15, 16, 17, 18, 19, 20, 21, 22, 23, 24, 25, 26, 27, 28, 29, 30, 31, 32, 33, 34, 35, 36, 37, 38, 39, 40, 41, 42, 43, 44, 45, 46, 47, 48, 49, 50, 51, 52, 53, 54, 55, 56, 57, 58, 59, 60, 61, 62, 63, 64, 65, 66, 67, 68, 69, 70, 71, 72, 73, 74, 75, 76, 77, 78, 79, 80, 81, 82, 83, 84, 85, 86, 115, 116, 117, 118, 119, 120, 121, 122, 123, 124, 125, 126, 127, 128, 129, 130, 131, 132, 133, 134, 135, 136, 137] rfl gd_wsX5_everLed
set_option maxRecDepth 100000 in
theorem gX6_fewestSteps_X5_everLed : GoodIn wsX6_fewestSteps (wsV RX6 37 RX5 yX5_everLed wsX5_everLed) := goodIn_app (goodIn_r _ [3, 4, 5, 6] rfl (by decide +kernel)) ggX6_fewestSteps_X5_everLed
set_option maxRecDepth 20000 in
theorem gd_wsX5_turnTo : wsX5_turnTo.all goodWord = true := by decide +kernel
set_option maxRecDepth 100000 in
theorem ggX6_fewestSteps_X5_turnTo : GoodIn wsX6_fewestSteps wsX5_turnTo := goodIn_r _ [90, 16, 91, 28, 29, 30, 6, 31, 32, 21, 33, 23, 34, 115, 116, 117, 118, 119, 120, 121, 122, 123, 124, 125] rfl gd_wsX5_turnTo
set_option maxRecDepth 100000 in
theorem gX6_fewestSteps_X5_turnTo : GoodIn wsX6_fewestSteps (wsV RX6 41 RX5 yX5_turnTo wsX5_turnTo) := goodIn_app (goodIn_r _ [87, 88, 89, 6] rfl (by decide +kernel)) ggX6_fewestSteps_X5_turnTo
set_option maxRecDepth 20000 in
theorem gd_wsX5_word : wsX5_word.all goodWord = true := by decide +kernel
set_option maxRecDepth 100000 in
theorem ggX6_fewestSteps_X5_word : GoodIn wsX6_fewestSteps wsX5_word := goodIn_r _ [95, 16, 91, 35, 36, 37, 6, 38, 39, 40, 41, 42, 43, 10, 11, 44, 45, 46, 47, 48, 49, 50, 51, 52, 53, 54, 55, 56, 57, 58, 21, 59, 60, 61, 62, 63, 64, 65, 66, 67, 68, 69, 70, 71, 72, 73, 74, 75, 76, 77, 78, 115, 116, 117, 118, 119, 120, 121, 122, 123, 124, 125, 126, 127, 128, 129, 130, 131, 132, 133, 134, 135, 136, 137] rfl gd_wsX5_word
set_option maxRecDepth 100000 in
theorem gX6_fewestSteps_X5_word : GoodIn wsX6_fewestSteps (wsV RX6 45 RX5 yX5_word wsX5_word) := goodIn_app (goodIn_r _ [92, 93, 94, 6] rfl (by decide +kernel)) ggX6_fewestSteps_X5_word
set_option maxRecDepth 100000 in
theorem ggX6_fewestSteps_X5_besides : GoodIn wsX6_fewestSteps wsX5_besides := goodIn_r _ [86, 10, 11, 12, 13, 14, 6, 15, 16, 115, 116, 117, 118, 119, 120, 121, 122, 123, 124, 125] rfl gd_wsX5_besides
set_option maxRecDepth 100000 in
theorem gX6_fewestSteps_X5_besides : GoodIn wsX6_fewestSteps (wsV RX6 49 RX5 yX5_besides wsX5_besides) := goodIn_app (goodIn_r _ [96, 84, 85, 6] rfl (by decide +kernel)) ggX6_fewestSteps_X5_besides
set_option maxRecDepth 20000 in
theorem gd_wsX5_forward : wsX5_forward.all goodWord = true := by decide +kernel
set_option maxRecDepth 100000 in
theorem ggX6_fewestSteps_X5_forward : GoodIn wsX6_fewestSteps wsX5_forward := goodIn_r _ [100, 16, 91, 21, 115, 116, 117, 118, 119, 120, 121, 122, 123, 124, 125] rfl gd_wsX5_forward
set_option maxRecDepth 100000 in
theorem gX6_fewestSteps_X5_forward : GoodIn wsX6_fewestSteps (wsV RX6 53 RX5 yX5_forward wsX5_forward) := goodIn_app (goodIn_r _ [97, 98, 99, 6] rfl (by decide +kernel)) ggX6_fewestSteps_X5_forward
theorem dX6_fewestSteps_0 : decode cX6_fewestSteps 0 = .ok (.aload_n 0, 1) := by decide +kernel
theorem dX6_fewestSteps_1 : decode cX6_fewestSteps 1 = .ok (.getfield 33, 3) := by decide +kernel
theorem dX6_fewestSteps_4 : decode cX6_fewestSteps 4 = .ok (.iload_n 1, 1) := by decide +kernel
theorem dX6_fewestSteps_5 : decode cX6_fewestSteps 5 = .ok (.iload_n 2, 1) := by decide +kernel
theorem dX6_fewestSteps_6 : decode cX6_fewestSteps 6 = .ok (.invokevirtual 37, 3) := by decide +kernel
theorem dX6_fewestSteps_9 : decode cX6_fewestSteps 9 = .ok (.ifCond .ne 6, 3) := by decide +kernel
theorem dX6_fewestSteps_12 : decode cX6_fewestSteps 12 = .ok (.bipush (-2), 2) := by decide +kernel
theorem dX6_fewestSteps_14 : decode cX6_fewestSteps 14 = .ok (.ireturn, 1) := by decide +kernel
theorem dX6_fewestSteps_15 : decode cX6_fewestSteps 15 = .ok (.iconst 1, 1) := by decide +kernel
theorem dX6_fewestSteps_16 : decode cX6_fewestSteps 16 = .ok (.iload_n 1, 1) := by decide +kernel
theorem dX6_fewestSteps_17 : decode cX6_fewestSteps 17 = .ok (.ishl, 1) := by decide +kernel
theorem dX6_fewestSteps_18 : decode cX6_fewestSteps 18 = .ok (.istore 4, 2) := by decide +kernel
theorem dX6_fewestSteps_20 : decode cX6_fewestSteps 20 = .ok (.iconst 1, 1) := by decide +kernel
theorem dX6_fewestSteps_21 : decode cX6_fewestSteps 21 = .ok (.iload_n 2, 1) := by decide +kernel
theorem dX6_fewestSteps_22 : decode cX6_fewestSteps 22 = .ok (.ishl, 1) := by decide +kernel
theorem dX6_fewestSteps_23 : decode cX6_fewestSteps 23 = .ok (.istore 5, 2) := by decide +kernel
theorem dX6_fewestSteps_25 : decode cX6_fewestSteps 25 = .ok (.aload_n 0, 1) := by decide +kernel
theorem dX6_fewestSteps_26 : decode cX6_fewestSteps 26 = .ok (.getfield 33, 3) := by decide +kernel
theorem dX6_fewestSteps_29 : decode cX6_fewestSteps 29 = .ok (.iload_n 3, 1) := by decide +kernel
theorem dX6_fewestSteps_30 : decode cX6_fewestSteps 30 = .ok (.invokevirtual 41, 3) := by decide +kernel
theorem dX6_fewestSteps_33 : decode cX6_fewestSteps 33 = .ok (.iconst 0, 1) := by decide +kernel
theorem dX6_fewestSteps_34 : decode cX6_fewestSteps 34 = .ok (.istore 6, 2) := by decide +kernel
theorem dX6_fewestSteps_36 : decode cX6_fewestSteps 36 = .ok (.iload 6, 2) := by decide +kernel
theorem dX6_fewestSteps_38 : decode cX6_fewestSteps 38 = .ok (.sipush 600, 3) := by decide +kernel
theorem dX6_fewestSteps_41 : decode cX6_fewestSteps 41 = .ok (.if_icmp .ge 61, 3) := by decide +kernel
theorem dX6_fewestSteps_44 : decode cX6_fewestSteps 44 = .ok (.aload_n 0, 1) := by decide +kernel
theorem dX6_fewestSteps_45 : decode cX6_fewestSteps 45 = .ok (.getfield 18, 3) := by decide +kernel
theorem dX6_fewestSteps_48 : decode cX6_fewestSteps 48 = .ok (.iload 6, 2) := by decide +kernel
theorem dX6_fewestSteps_50 : decode cX6_fewestSteps 50 = .ok (.aload_n 0, 1) := by decide +kernel
theorem dX6_fewestSteps_51 : decode cX6_fewestSteps 51 = .ok (.getfield 33, 3) := by decide +kernel
theorem dX6_fewestSteps_54 : decode cX6_fewestSteps 54 = .ok (.invokevirtual 45, 3) := by decide +kernel
theorem dX6_fewestSteps_57 : decode cX6_fewestSteps 57 = .ok (.iastore, 1) := by decide +kernel
theorem dX6_fewestSteps_58 : decode cX6_fewestSteps 58 = .ok (.aload_n 0, 1) := by decide +kernel
theorem dX6_fewestSteps_59 : decode cX6_fewestSteps 59 = .ok (.getfield 33, 3) := by decide +kernel
theorem dX6_fewestSteps_62 : decode cX6_fewestSteps 62 = .ok (.iload 4, 2) := by decide +kernel
theorem dX6_fewestSteps_64 : decode cX6_fewestSteps 64 = .ok (.aload_n 0, 1) := by decide +kernel
theorem dX6_fewestSteps_65 : decode cX6_fewestSteps 65 = .ok (.getfield 18, 3) := by decide +kernel
theorem dX6_fewestSteps_68 : decode cX6_fewestSteps 68 = .ok (.iload 6, 2) := by decide +kernel
theorem dX6_fewestSteps_70 : decode cX6_fewestSteps 70 = .ok (.iaload, 1) := by decide +kernel
theorem dX6_fewestSteps_71 : decode cX6_fewestSteps 71 = .ok (.invokevirtual 49, 3) := by decide +kernel
theorem dX6_fewestSteps_74 : decode cX6_fewestSteps 74 = .ok (.istore 4, 2) := by decide +kernel
theorem dX6_fewestSteps_76 : decode cX6_fewestSteps 76 = .ok (.iload 4, 2) := by decide +kernel
theorem dX6_fewestSteps_78 : decode cX6_fewestSteps 78 = .ok (.iload 5, 2) := by decide +kernel
theorem dX6_fewestSteps_80 : decode cX6_fewestSteps 80 = .ok (.iand, 1) := by decide +kernel
theorem dX6_fewestSteps_81 : decode cX6_fewestSteps 81 = .ok (.ifCond .eq 8, 3) := by decide +kernel
theorem dX6_fewestSteps_84 : decode cX6_fewestSteps 84 = .ok (.iload 6, 2) := by decide +kernel
theorem dX6_fewestSteps_86 : decode cX6_fewestSteps 86 = .ok (.iconst 1, 1) := by decide +kernel
theorem dX6_fewestSteps_87 : decode cX6_fewestSteps 87 = .ok (.iadd, 1) := by decide +kernel
theorem dX6_fewestSteps_88 : decode cX6_fewestSteps 88 = .ok (.ireturn, 1) := by decide +kernel
theorem dX6_fewestSteps_89 : decode cX6_fewestSteps 89 = .ok (.aload_n 0, 1) := by decide +kernel
theorem dX6_fewestSteps_90 : decode cX6_fewestSteps 90 = .ok (.getfield 33, 3) := by decide +kernel
theorem dX6_fewestSteps_93 : decode cX6_fewestSteps 93 = .ok (.invokevirtual 53, 3) := by decide +kernel
theorem dX6_fewestSteps_96 : decode cX6_fewestSteps 96 = .ok (.iinc 6 1, 3) := by decide +kernel
theorem dX6_fewestSteps_99 : decode cX6_fewestSteps 99 = .ok (.goto (-63), 3) := by decide +kernel
theorem dX6_fewestSteps_102 : decode cX6_fewestSteps 102 = .ok (.bipush (-2), 2) := by decide +kernel
theorem dX6_fewestSteps_104 : decode cX6_fewestSteps 104 = .ok (.ireturn, 1) := by decide +kernel
set_option maxRecDepth 20000 in
theorem gd_wsX6_countNeeded : wsX6_countNeeded.all goodWord = true := by decide +kernel
set_option maxRecDepth 100000 in
theorem ggX6_holder_X6_countNeeded : GoodIn wsX6_holder wsX6_countNeeded := goodIn_r _ [5, 6, 7, 8, 9, 10, 11, 12, 13, 14, 15, 16, 17, 18, 19, 20, 21, 22, 23, 24, 25, 26, 38, 39, 40, 41, 42, 43, 44, 45, 46, 47, 48, 49, 50, 51, 52, 53, 54, 55, 56, 57, 58, 59, 60, 61, 62] rfl gd_wsX6_countNeeded
set_option maxRecDepth 100000 in
theorem gX6_holder_X6_countNeeded : GoodIn wsX6_holder (wsV RX6 56 RX6 yX6_countNeeded wsX6_countNeeded) := goodIn_app (goodIn_r _ [1, 2, 3, 4] rfl (by decide +kernel)) ggX6_holder_X6_countNeeded
set_option maxRecDepth 20000 in
theorem gd_wsX6_nextHolder : wsX6_nextHolder.all goodWord = true := by decide +kernel
set_option maxRecDepth 100000 in
theorem ggX6_holder_X6_nextHolder : GoodIn wsX6_holder wsX6_nextHolder := goodIn_r _ [30, 6, 14, 7, 8, 31, 32, 33, 24, 34, 35, 36, 37, 22, 23, 25, 26, 38, 39, 40, 41, 42, 43, 44, 45, 46, 47, 48, 49, 50, 51, 52, 53, 54, 55, 56, 57, 58, 59, 60, 61, 62] rfl gd_wsX6_nextHolder
set_option maxRecDepth 100000 in
theorem gX6_holder_X6_nextHolder : GoodIn wsX6_holder (wsV RX6 60 RX6 yX6_nextHolder wsX6_nextHolder) := goodIn_app (goodIn_r _ [27, 28, 29, 4] rfl (by decide +kernel)) ggX6_holder_X6_nextHolder
theorem dX6_holder_0 : decode cX6_holder 0 = .ok (.aload_n 0, 1) := by decide +kernel
theorem dX6_holder_1 : decode cX6_holder 1 = .ok (.iload_n 2, 1) := by decide +kernel
theorem dX6_holder_2 : decode cX6_holder 2 = .ok (.iload_n 3, 1) := by decide +kernel
theorem dX6_holder_3 : decode cX6_holder 3 = .ok (.invokevirtual 56, 3) := by decide +kernel
theorem dX6_holder_6 : decode cX6_holder 6 = .ok (.iload_n 1, 1) := by decide +kernel
theorem dX6_holder_7 : decode cX6_holder 7 = .ok (.istore 5, 2) := by decide +kernel
theorem dX6_holder_9 : decode cX6_holder 9 = .ok (.iconst 0, 1) := by decide +kernel
theorem dX6_holder_10 : decode cX6_holder 10 = .ok (.istore 6, 2) := by decide +kernel
theorem dX6_holder_12 : decode cX6_holder 12 = .ok (.iload 6, 2) := by decide +kernel
theorem dX6_holder_14 : decode cX6_holder 14 = .ok (.iload 4, 2) := by decide +kernel
theorem dX6_holder_16 : decode cX6_holder 16 = .ok (.if_icmp .ge 25, 3) := by decide +kernel
theorem dX6_holder_19 : decode cX6_holder 19 = .ok (.iload 6, 2) := by decide +kernel
theorem dX6_holder_21 : decode cX6_holder 21 = .ok (.iload_n 3, 1) := by decide +kernel
theorem dX6_holder_22 : decode cX6_holder 22 = .ok (.if_icmp .ge 19, 3) := by decide +kernel
theorem dX6_holder_25 : decode cX6_holder 25 = .ok (.aload_n 0, 1) := by decide +kernel
theorem dX6_holder_26 : decode cX6_holder 26 = .ok (.iload 5, 2) := by decide +kernel
theorem dX6_holder_28 : decode cX6_holder 28 = .ok (.iload 6, 2) := by decide +kernel
theorem dX6_holder_30 : decode cX6_holder 30 = .ok (.invokevirtual 60, 3) := by decide +kernel
theorem dX6_holder_33 : decode cX6_holder 33 = .ok (.istore 5, 2) := by decide +kernel
theorem dX6_holder_35 : decode cX6_holder 35 = .ok (.iinc 6 1, 3) := by decide +kernel
theorem dX6_holder_38 : decode cX6_holder 38 = .ok (.goto (-26), 3) := by decide +kernel
theorem dX6_holder_41 : decode cX6_holder 41 = .ok (.iload 5, 2) := by decide +kernel
theorem dX6_holder_43 : decode cX6_holder 43 = .ok (.ireturn, 1) := by decide +kernel
set_option maxRecDepth 100000 in
theorem ggX6_handsOnWay_X6_countNeeded : GoodIn wsX6_handsOnWay wsX6_countNeeded := goodIn_r _ [6, 7, 8, 1, 9, 10, 11, 12, 13, 14, 15, 16, 17, 18, 19, 20, 21, 22, 23, 24, 25, 26, 27, 28, 29, 30, 31, 32, 33, 34, 35, 36, 37, 38, 39, 40, 41, 42, 43, 44, 45, 46, 47, 48, 49, 50, 51] rfl gd_wsX6_countNeeded
set_option maxRecDepth 100000 in
theorem gX6_handsOnWay_X6_countNeeded : GoodIn wsX6_handsOnWay (wsV RX6 56 RX6 yX6_countNeeded wsX6_countNeeded) := goodIn_app (goodIn_r _ [2, 3, 4, 5] rfl (by decide +kernel)) ggX6_handsOnWay_X6_countNeeded
theorem dX6_handsOnWay_0 : decode cX6_handsOnWay 0 = .ok (.aload_n 0, 1) := by decide +kernel
theorem dX6_handsOnWay_1 : decode cX6_handsOnWay 1 = .ok (.iload_n 2, 1) := by decide +kernel
theorem dX6_handsOnWay_2 : decode cX6_handsOnWay 2 = .ok (.iload_n 3, 1) := by decide +kernel
theorem dX6_handsOnWay_3 : decode cX6_handsOnWay 3 = .ok (.invokevirtual 56, 3) := by decide +kernel
theorem dX6_handsOnWay_6 : decode cX6_handsOnWay 6 = .ok (.aload_n 0, 1) := by decide +kernel
theorem dX6_handsOnWay_7 : decode cX6_handsOnWay 7 = .ok (.getfield 22, 3) := by decide +kernel
theorem dX6_handsOnWay_10 : decode cX6_handsOnWay 10 = .ok (.iload_n 1, 1) := by decide +kernel
theorem dX6_handsOnWay_11 : decode cX6_handsOnWay 11 = .ok (.iaload, 1) := by decide +kernel
theorem dX6_handsOnWay_12 : decode cX6_handsOnWay 12 = .ok (.ireturn, 1) := by decide +kernel
set_option maxRecDepth 100000 in
theorem ggX6_countNeeded_X5_pairs : GoodIn wsX6_countNeeded wsX5_pairs := goodIn_r _ [20, 21, 36, 37, 38, 39, 40, 41, 42, 43, 44, 45, 46] rfl gd_wsX5_pairs
set_option maxRecDepth 100000 in
theorem gX6_countNeeded_X5_pairs : GoodIn wsX6_countNeeded (wsV RX6 63 RX5 yX5_pairs wsX5_pairs) := goodIn_app (goodIn_r _ [16, 17, 18, 19] rfl (by decide +kernel)) ggX6_countNeeded_X5_pairs
theorem dX6_countNeeded_0 : decode cX6_countNeeded 0 = .ok (.iload_n 2, 1) := by decide +kernel
theorem dX6_countNeeded_1 : decode cX6_countNeeded 1 = .ok (.bipush 6, 2) := by decide +kernel
theorem dX6_countNeeded_3 : decode cX6_countNeeded 3 = .ok (.imul, 1) := by decide +kernel
theorem dX6_countNeeded_4 : decode cX6_countNeeded 4 = .ok (.istore_n 3, 1) := by decide +kernel
theorem dX6_countNeeded_5 : decode cX6_countNeeded 5 = .ok (.aload_n 0, 1) := by decide +kernel
theorem dX6_countNeeded_6 : decode cX6_countNeeded 6 = .ok (.getfield 33, 3) := by decide +kernel
theorem dX6_countNeeded_9 : decode cX6_countNeeded 9 = .ok (.invokevirtual 63, 3) := by decide +kernel
theorem dX6_countNeeded_12 : decode cX6_countNeeded 12 = .ok (.istore 4, 2) := by decide +kernel
theorem dX6_countNeeded_14 : decode cX6_countNeeded 14 = .ok (.iconst 0, 1) := by decide +kernel
theorem dX6_countNeeded_15 : decode cX6_countNeeded 15 = .ok (.istore 5, 2) := by decide +kernel
theorem dX6_countNeeded_17 : decode cX6_countNeeded 17 = .ok (.iload 5, 2) := by decide +kernel
theorem dX6_countNeeded_19 : decode cX6_countNeeded 19 = .ok (.aload_n 0, 1) := by decide +kernel
theorem dX6_countNeeded_20 : decode cX6_countNeeded 20 = .ok (.getfield 33, 3) := by decide +kernel
theorem dX6_countNeeded_23 : decode cX6_countNeeded 23 = .ok (.getfield 66, 3) := by decide +kernel
theorem dX6_countNeeded_26 : decode cX6_countNeeded 26 = .ok (.if_icmp .ge 30, 3) := by decide +kernel
theorem dX6_countNeeded_29 : decode cX6_countNeeded 29 = .ok (.aload_n 0, 1) := by decide +kernel
theorem dX6_countNeeded_30 : decode cX6_countNeeded 30 = .ok (.getfield 22, 3) := by decide +kernel
theorem dX6_countNeeded_33 : decode cX6_countNeeded 33 = .ok (.iload_n 3, 1) := by decide +kernel
theorem dX6_countNeeded_34 : decode cX6_countNeeded 34 = .ok (.iload 5, 2) := by decide +kernel
theorem dX6_countNeeded_36 : decode cX6_countNeeded 36 = .ok (.iadd, 1) := by decide +kernel
theorem dX6_countNeeded_37 : decode cX6_countNeeded 37 = .ok (.iload 5, 2) := by decide +kernel
theorem dX6_countNeeded_39 : decode cX6_countNeeded 39 = .ok (.iload_n 1, 1) := by decide +kernel
theorem dX6_countNeeded_40 : decode cX6_countNeeded 40 = .ok (.if_icmp .ne 7, 3) := by decide +kernel
theorem dX6_countNeeded_43 : decode cX6_countNeeded 43 = .ok (.iconst 0, 1) := by decide +kernel
theorem dX6_countNeeded_44 : decode cX6_countNeeded 44 = .ok (.goto 5, 3) := by decide +kernel
theorem dX6_countNeeded_47 : decode cX6_countNeeded 47 = .ok (.ldc 69, 2) := by decide +kernel
theorem dX6_countNeeded_49 : decode cX6_countNeeded 49 = .ok (.iastore, 1) := by decide +kernel
theorem dX6_countNeeded_50 : decode cX6_countNeeded 50 = .ok (.iinc 5 1, 3) := by decide +kernel
theorem dX6_countNeeded_53 : decode cX6_countNeeded 53 = .ok (.goto (-36), 3) := by decide +kernel
theorem dX6_countNeeded_56 : decode cX6_countNeeded 56 = .ok (.iload_n 2, 1) := by decide +kernel
theorem dX6_countNeeded_57 : decode cX6_countNeeded 57 = .ok (.iconst 1, 1) := by decide +kernel
theorem dX6_countNeeded_58 : decode cX6_countNeeded 58 = .ok (.isub, 1) := by decide +kernel
theorem dX6_countNeeded_59 : decode cX6_countNeeded 59 = .ok (.istore 5, 2) := by decide +kernel
theorem dX6_countNeeded_61 : decode cX6_countNeeded 61 = .ok (.iload 5, 2) := by decide +kernel
theorem dX6_countNeeded_63 : decode cX6_countNeeded 63 = .ok (.ifCond .lt 162, 3) := by decide +kernel
theorem dX6_countNeeded_66 : decode cX6_countNeeded 66 = .ok (.iload 5, 2) := by decide +kernel
theorem dX6_countNeeded_68 : decode cX6_countNeeded 68 = .ok (.bipush 6, 2) := by decide +kernel
theorem dX6_countNeeded_70 : decode cX6_countNeeded 70 = .ok (.imul, 1) := by decide +kernel
theorem dX6_countNeeded_71 : decode cX6_countNeeded 71 = .ok (.istore 6, 2) := by decide +kernel
theorem dX6_countNeeded_73 : decode cX6_countNeeded 73 = .ok (.iload 6, 2) := by decide +kernel
theorem dX6_countNeeded_75 : decode cX6_countNeeded 75 = .ok (.bipush 6, 2) := by decide +kernel
theorem dX6_countNeeded_77 : decode cX6_countNeeded 77 = .ok (.iadd, 1) := by decide +kernel
theorem dX6_countNeeded_78 : decode cX6_countNeeded 78 = .ok (.istore 7, 2) := by decide +kernel
theorem dX6_countNeeded_80 : decode cX6_countNeeded 80 = .ok (.aload_n 0, 1) := by decide +kernel
theorem dX6_countNeeded_81 : decode cX6_countNeeded 81 = .ok (.getfield 22, 3) := by decide +kernel
theorem dX6_countNeeded_84 : decode cX6_countNeeded 84 = .ok (.iload 7, 2) := by decide +kernel
theorem dX6_countNeeded_86 : decode cX6_countNeeded 86 = .ok (.aload_n 0, 1) := by decide +kernel
theorem dX6_countNeeded_87 : decode cX6_countNeeded 87 = .ok (.getfield 22, 3) := by decide +kernel
theorem dX6_countNeeded_90 : decode cX6_countNeeded 90 = .ok (.iload 6, 2) := by decide +kernel
theorem dX6_countNeeded_92 : decode cX6_countNeeded 92 = .ok (.aload_n 0, 1) := by decide +kernel
theorem dX6_countNeeded_93 : decode cX6_countNeeded 93 = .ok (.getfield 33, 3) := by decide +kernel
theorem dX6_countNeeded_96 : decode cX6_countNeeded 96 = .ok (.getfield 66, 3) := by decide +kernel
theorem dX6_countNeeded_99 : decode cX6_countNeeded 99 = .ok (.invokestatic 70, 3) := by decide +kernel
theorem dX6_countNeeded_102 : decode cX6_countNeeded 102 = .ok (.iconst 0, 1) := by decide +kernel
theorem dX6_countNeeded_103 : decode cX6_countNeeded 103 = .ok (.istore 8, 2) := by decide +kernel
theorem dX6_countNeeded_105 : decode cX6_countNeeded 105 = .ok (.iload 8, 2) := by decide +kernel
theorem dX6_countNeeded_107 : decode cX6_countNeeded 107 = .ok (.iload 4, 2) := by decide +kernel
theorem dX6_countNeeded_109 : decode cX6_countNeeded 109 = .ok (.if_icmp .ge 110, 3) := by decide +kernel
theorem dX6_countNeeded_112 : decode cX6_countNeeded 112 = .ok (.aload_n 0, 1) := by decide +kernel
theorem dX6_countNeeded_113 : decode cX6_countNeeded 113 = .ok (.getfield 18, 3) := by decide +kernel
theorem dX6_countNeeded_116 : decode cX6_countNeeded 116 = .ok (.iload 5, 2) := by decide +kernel
theorem dX6_countNeeded_118 : decode cX6_countNeeded 118 = .ok (.iaload, 1) := by decide +kernel
theorem dX6_countNeeded_119 : decode cX6_countNeeded 119 = .ok (.iload 8, 2) := by decide +kernel
theorem dX6_countNeeded_121 : decode cX6_countNeeded 121 = .ok (.iushr, 1) := by decide +kernel
theorem dX6_countNeeded_122 : decode cX6_countNeeded 122 = .ok (.iconst 1, 1) := by decide +kernel
theorem dX6_countNeeded_123 : decode cX6_countNeeded 123 = .ok (.iand, 1) := by decide +kernel
theorem dX6_countNeeded_124 : decode cX6_countNeeded 124 = .ok (.ifCond .eq 89, 3) := by decide +kernel
theorem dX6_countNeeded_127 : decode cX6_countNeeded 127 = .ok (.getstatic 76, 3) := by decide +kernel
theorem dX6_countNeeded_130 : decode cX6_countNeeded 130 = .ok (.iload 8, 2) := by decide +kernel
theorem dX6_countNeeded_132 : decode cX6_countNeeded 132 = .ok (.iaload, 1) := by decide +kernel
theorem dX6_countNeeded_133 : decode cX6_countNeeded 133 = .ok (.istore 9, 2) := by decide +kernel
theorem dX6_countNeeded_135 : decode cX6_countNeeded 135 = .ok (.getstatic 79, 3) := by decide +kernel
theorem dX6_countNeeded_138 : decode cX6_countNeeded 138 = .ok (.iload 8, 2) := by decide +kernel
theorem dX6_countNeeded_140 : decode cX6_countNeeded 140 = .ok (.iaload, 1) := by decide +kernel
theorem dX6_countNeeded_141 : decode cX6_countNeeded 141 = .ok (.istore 10, 2) := by decide +kernel
theorem dX6_countNeeded_143 : decode cX6_countNeeded 143 = .ok (.aload_n 0, 1) := by decide +kernel
theorem dX6_countNeeded_144 : decode cX6_countNeeded 144 = .ok (.getfield 22, 3) := by decide +kernel
theorem dX6_countNeeded_147 : decode cX6_countNeeded 147 = .ok (.iload 6, 2) := by decide +kernel
theorem dX6_countNeeded_149 : decode cX6_countNeeded 149 = .ok (.iload 9, 2) := by decide +kernel
theorem dX6_countNeeded_151 : decode cX6_countNeeded 151 = .ok (.iadd, 1) := by decide +kernel
theorem dX6_countNeeded_152 : decode cX6_countNeeded 152 = .ok (.aload_n 0, 1) := by decide +kernel
theorem dX6_countNeeded_153 : decode cX6_countNeeded 153 = .ok (.getfield 22, 3) := by decide +kernel
theorem dX6_countNeeded_156 : decode cX6_countNeeded 156 = .ok (.iload 6, 2) := by decide +kernel
theorem dX6_countNeeded_158 : decode cX6_countNeeded 158 = .ok (.iload 9, 2) := by decide +kernel
theorem dX6_countNeeded_160 : decode cX6_countNeeded 160 = .ok (.iadd, 1) := by decide +kernel
theorem dX6_countNeeded_161 : decode cX6_countNeeded 161 = .ok (.iaload, 1) := by decide +kernel
theorem dX6_countNeeded_162 : decode cX6_countNeeded 162 = .ok (.aload_n 0, 1) := by decide +kernel
theorem dX6_countNeeded_163 : decode cX6_countNeeded 163 = .ok (.getfield 22, 3) := by decide +kernel
theorem dX6_countNeeded_166 : decode cX6_countNeeded 166 = .ok (.iload 7, 2) := by decide +kernel
theorem dX6_countNeeded_168 : decode cX6_countNeeded 168 = .ok (.iload 10, 2) := by decide +kernel
theorem dX6_countNeeded_170 : decode cX6_countNeeded 170 = .ok (.iadd, 1) := by decide +kernel
theorem dX6_countNeeded_171 : decode cX6_countNeeded 171 = .ok (.iaload, 1) := by decide +kernel
theorem dX6_countNeeded_172 : decode cX6_countNeeded 172 = .ok (.iconst 1, 1) := by decide +kernel
theorem dX6_countNeeded_173 : decode cX6_countNeeded 173 = .ok (.iadd, 1) := by decide +kernel
theorem dX6_countNeeded_174 : decode cX6_countNeeded 174 = .ok (.invokestatic 82, 3) := by decide +kernel
theorem dX6_countNeeded_177 : decode cX6_countNeeded 177 = .ok (.iastore, 1) := by decide +kernel
theorem dX6_countNeeded_178 : decode cX6_countNeeded 178 = .ok (.aload_n 0, 1) := by decide +kernel
theorem dX6_countNeeded_179 : decode cX6_countNeeded 179 = .ok (.getfield 22, 3) := by decide +kernel
theorem dX6_countNeeded_182 : decode cX6_countNeeded 182 = .ok (.iload 6, 2) := by decide +kernel
theorem dX6_countNeeded_184 : decode cX6_countNeeded 184 = .ok (.iload 10, 2) := by decide +kernel
theorem dX6_countNeeded_186 : decode cX6_countNeeded 186 = .ok (.iadd, 1) := by decide +kernel
theorem dX6_countNeeded_187 : decode cX6_countNeeded 187 = .ok (.aload_n 0, 1) := by decide +kernel
theorem dX6_countNeeded_188 : decode cX6_countNeeded 188 = .ok (.getfield 22, 3) := by decide +kernel
theorem dX6_countNeeded_191 : decode cX6_countNeeded 191 = .ok (.iload 6, 2) := by decide +kernel
theorem dX6_countNeeded_193 : decode cX6_countNeeded 193 = .ok (.iload 10, 2) := by decide +kernel
theorem dX6_countNeeded_195 : decode cX6_countNeeded 195 = .ok (.iadd, 1) := by decide +kernel
theorem dX6_countNeeded_196 : decode cX6_countNeeded 196 = .ok (.iaload, 1) := by decide +kernel
theorem dX6_countNeeded_197 : decode cX6_countNeeded 197 = .ok (.aload_n 0, 1) := by decide +kernel
theorem dX6_countNeeded_198 : decode cX6_countNeeded 198 = .ok (.getfield 22, 3) := by decide +kernel
theorem dX6_countNeeded_201 : decode cX6_countNeeded 201 = .ok (.iload 7, 2) := by decide +kernel
theorem dX6_countNeeded_203 : decode cX6_countNeeded 203 = .ok (.iload 9, 2) := by decide +kernel
theorem dX6_countNeeded_205 : decode cX6_countNeeded 205 = .ok (.iadd, 1) := by decide +kernel
theorem dX6_countNeeded_206 : decode cX6_countNeeded 206 = .ok (.iaload, 1) := by decide +kernel
theorem dX6_countNeeded_207 : decode cX6_countNeeded 207 = .ok (.iconst 1, 1) := by decide +kernel
theorem dX6_countNeeded_208 : decode cX6_countNeeded 208 = .ok (.iadd, 1) := by decide +kernel
theorem dX6_countNeeded_209 : decode cX6_countNeeded 209 = .ok (.invokestatic 82, 3) := by decide +kernel
theorem dX6_countNeeded_212 : decode cX6_countNeeded 212 = .ok (.iastore, 1) := by decide +kernel
theorem dX6_countNeeded_213 : decode cX6_countNeeded 213 = .ok (.iinc 8 1, 3) := by decide +kernel
theorem dX6_countNeeded_216 : decode cX6_countNeeded 216 = .ok (.goto (-111), 3) := by decide +kernel
theorem dX6_countNeeded_219 : decode cX6_countNeeded 219 = .ok (.iinc 5 (-1), 3) := by decide +kernel
theorem dX6_countNeeded_222 : decode cX6_countNeeded 222 = .ok (.goto (-161), 3) := by decide +kernel
theorem dX6_countNeeded_225 : decode cX6_countNeeded 225 = .ok (.return_, 1) := by decide +kernel
set_option maxRecDepth 100000 in
theorem ggX6_nextHolder_X5_besides : GoodIn wsX6_nextHolder wsX5_besides := goodIn_r _ [9, 10, 11, 12, 13, 14, 8, 15, 16, 31, 32, 33, 34, 35, 36, 37, 38, 39, 40, 41] rfl gd_wsX5_besides
set_option maxRecDepth 100000 in
theorem gX6_nextHolder_X5_besides : GoodIn wsX6_nextHolder (wsV RX6 49 RX5 yX5_besides wsX5_besides) := goodIn_app (goodIn_r _ [5, 6, 7, 8] rfl (by decide +kernel)) ggX6_nextHolder_X5_besides
theorem dX6_nextHolder_0 : decode cX6_nextHolder 0 = .ok (.iload_n 2, 1) := by decide +kernel
theorem dX6_nextHolder_1 : decode cX6_nextHolder 1 = .ok (.bipush 6, 2) := by decide +kernel
theorem dX6_nextHolder_3 : decode cX6_nextHolder 3 = .ok (.imul, 1) := by decide +kernel
theorem dX6_nextHolder_4 : decode cX6_nextHolder 4 = .ok (.istore_n 3, 1) := by decide +kernel
theorem dX6_nextHolder_5 : decode cX6_nextHolder 5 = .ok (.iload_n 3, 1) := by decide +kernel
theorem dX6_nextHolder_6 : decode cX6_nextHolder 6 = .ok (.bipush 6, 2) := by decide +kernel
theorem dX6_nextHolder_8 : decode cX6_nextHolder 8 = .ok (.iadd, 1) := by decide +kernel
theorem dX6_nextHolder_9 : decode cX6_nextHolder 9 = .ok (.istore 4, 2) := by decide +kernel
theorem dX6_nextHolder_11 : decode cX6_nextHolder 11 = .ok (.aload_n 0, 1) := by decide +kernel
theorem dX6_nextHolder_12 : decode cX6_nextHolder 12 = .ok (.getfield 33, 3) := by decide +kernel
theorem dX6_nextHolder_15 : decode cX6_nextHolder 15 = .ok (.iconst 1, 1) := by decide +kernel
theorem dX6_nextHolder_16 : decode cX6_nextHolder 16 = .ok (.iload_n 1, 1) := by decide +kernel
theorem dX6_nextHolder_17 : decode cX6_nextHolder 17 = .ok (.ishl, 1) := by decide +kernel
theorem dX6_nextHolder_18 : decode cX6_nextHolder 18 = .ok (.aload_n 0, 1) := by decide +kernel
theorem dX6_nextHolder_19 : decode cX6_nextHolder 19 = .ok (.getfield 18, 3) := by decide +kernel
theorem dX6_nextHolder_22 : decode cX6_nextHolder 22 = .ok (.iload_n 2, 1) := by decide +kernel
theorem dX6_nextHolder_23 : decode cX6_nextHolder 23 = .ok (.iaload, 1) := by decide +kernel
theorem dX6_nextHolder_24 : decode cX6_nextHolder 24 = .ok (.invokevirtual 49, 3) := by decide +kernel
theorem dX6_nextHolder_27 : decode cX6_nextHolder 27 = .ok (.istore 5, 2) := by decide +kernel
theorem dX6_nextHolder_29 : decode cX6_nextHolder 29 = .ok (.iconst 0, 1) := by decide +kernel
theorem dX6_nextHolder_30 : decode cX6_nextHolder 30 = .ok (.istore 6, 2) := by decide +kernel
theorem dX6_nextHolder_32 : decode cX6_nextHolder 32 = .ok (.iload 6, 2) := by decide +kernel
theorem dX6_nextHolder_34 : decode cX6_nextHolder 34 = .ok (.aload_n 0, 1) := by decide +kernel
theorem dX6_nextHolder_35 : decode cX6_nextHolder 35 = .ok (.getfield 33, 3) := by decide +kernel
theorem dX6_nextHolder_38 : decode cX6_nextHolder 38 = .ok (.getfield 66, 3) := by decide +kernel
theorem dX6_nextHolder_41 : decode cX6_nextHolder 41 = .ok (.if_icmp .ge 59, 3) := by decide +kernel
theorem dX6_nextHolder_44 : decode cX6_nextHolder 44 = .ok (.iload 6, 2) := by decide +kernel
theorem dX6_nextHolder_46 : decode cX6_nextHolder 46 = .ok (.iload_n 1, 1) := by decide +kernel
theorem dX6_nextHolder_47 : decode cX6_nextHolder 47 = .ok (.if_icmp .ne 7, 3) := by decide +kernel
theorem dX6_nextHolder_50 : decode cX6_nextHolder 50 = .ok (.iconst 0, 1) := by decide +kernel
theorem dX6_nextHolder_51 : decode cX6_nextHolder 51 = .ok (.goto 4, 3) := by decide +kernel
theorem dX6_nextHolder_54 : decode cX6_nextHolder 54 = .ok (.iconst 1, 1) := by decide +kernel
theorem dX6_nextHolder_55 : decode cX6_nextHolder 55 = .ok (.istore 7, 2) := by decide +kernel
theorem dX6_nextHolder_57 : decode cX6_nextHolder 57 = .ok (.iload 5, 2) := by decide +kernel
theorem dX6_nextHolder_59 : decode cX6_nextHolder 59 = .ok (.iload 6, 2) := by decide +kernel
theorem dX6_nextHolder_61 : decode cX6_nextHolder 61 = .ok (.iushr, 1) := by decide +kernel
theorem dX6_nextHolder_62 : decode cX6_nextHolder 62 = .ok (.iconst 1, 1) := by decide +kernel
theorem dX6_nextHolder_63 : decode cX6_nextHolder 63 = .ok (.iand, 1) := by decide +kernel
theorem dX6_nextHolder_64 : decode cX6_nextHolder 64 = .ok (.ifCond .eq 30, 3) := by decide +kernel
theorem dX6_nextHolder_67 : decode cX6_nextHolder 67 = .ok (.aload_n 0, 1) := by decide +kernel
theorem dX6_nextHolder_68 : decode cX6_nextHolder 68 = .ok (.getfield 22, 3) := by decide +kernel
theorem dX6_nextHolder_71 : decode cX6_nextHolder 71 = .ok (.iload 4, 2) := by decide +kernel
theorem dX6_nextHolder_73 : decode cX6_nextHolder 73 = .ok (.iload 6, 2) := by decide +kernel
theorem dX6_nextHolder_75 : decode cX6_nextHolder 75 = .ok (.iadd, 1) := by decide +kernel
theorem dX6_nextHolder_76 : decode cX6_nextHolder 76 = .ok (.iaload, 1) := by decide +kernel
theorem dX6_nextHolder_77 : decode cX6_nextHolder 77 = .ok (.iload 7, 2) := by decide +kernel
theorem dX6_nextHolder_79 : decode cX6_nextHolder 79 = .ok (.iadd, 1) := by decide +kernel
theorem dX6_nextHolder_80 : decode cX6_nextHolder 80 = .ok (.aload_n 0, 1) := by decide +kernel
theorem dX6_nextHolder_81 : decode cX6_nextHolder 81 = .ok (.getfield 22, 3) := by decide +kernel
theorem dX6_nextHolder_84 : decode cX6_nextHolder 84 = .ok (.iload_n 3, 1) := by decide +kernel
theorem dX6_nextHolder_85 : decode cX6_nextHolder 85 = .ok (.iload_n 1, 1) := by decide +kernel
theorem dX6_nextHolder_86 : decode cX6_nextHolder 86 = .ok (.iadd, 1) := by decide +kernel
theorem dX6_nextHolder_87 : decode cX6_nextHolder 87 = .ok (.iaload, 1) := by decide +kernel
theorem dX6_nextHolder_88 : decode cX6_nextHolder 88 = .ok (.if_icmp .ne 6, 3) := by decide +kernel
theorem dX6_nextHolder_91 : decode cX6_nextHolder 91 = .ok (.iload 6, 2) := by decide +kernel
theorem dX6_nextHolder_93 : decode cX6_nextHolder 93 = .ok (.ireturn, 1) := by decide +kernel
theorem dX6_nextHolder_94 : decode cX6_nextHolder 94 = .ok (.iinc 6 1, 3) := by decide +kernel
theorem dX6_nextHolder_97 : decode cX6_nextHolder 97 = .ok (.goto (-65), 3) := by decide +kernel
theorem dX6_nextHolder_100 : decode cX6_nextHolder 100 = .ok (.iload_n 1, 1) := by decide +kernel
theorem dX6_nextHolder_101 : decode cX6_nextHolder 101 = .ok (.ireturn, 1) := by decide +kernel
set_option maxRecDepth 100000 in
theorem ggX6_fewestHands_X5_everLed : GoodIn wsX6_fewestHands wsX5_everLed := goodIn_r _ [8, 9, 10, 11, 12, 13, 14, 15, 7, 16, 17, 18, 19, 20, 21, 22, 23, 24, 25, 26, 27, 28, 29, 30, 31, 32, 33, 34, 35, 36, 37, 38, 39, 40, 41, 42, 43, 44, 45, 46, 47, 48, 49, 50, 51, 52, 53, 54, 55, 56, 57, 58, 59, 60, 61, 62, 63, 64, 65, 66, 67, 68, 69, 70, 71, 72, 73, 74, 75, 76, 77, 78, 79, 80, 81, 82, 83, 84, 85, 86, 87, 133, 134, 135, 136, 137, 138, 139, 140, 141, 142, 143, 144, 145, 146, 147, 148, 149, 150, 151, 152, 153, 154, 155] rfl gd_wsX5_everLed
set_option maxRecDepth 100000 in
theorem gX6_fewestHands_X5_everLed : GoodIn wsX6_fewestHands (wsV RX6 37 RX5 yX5_everLed wsX5_everLed) := goodIn_app (goodIn_r _ [4, 5, 6, 7] rfl (by decide +kernel)) ggX6_fewestHands_X5_everLed
set_option maxRecDepth 20000 in
theorem gd_wsJ7_fill_53178 : wsJ7_fill_53178.all goodWord = true := by decide +kernel
set_option maxRecDepth 100000 in
theorem ggX6_fewestHands_J7_fill_53178 : GoodIn wsX6_fewestHands wsJ7_fill_53178 := goodIn_r _ [91] rfl gd_wsJ7_fill_53178
set_option maxRecDepth 100000 in
theorem gX6_fewestHands_J7_fill_53178 : GoodIn wsX6_fewestHands (va_wsS RX6 87 yJ7_fill_53178 wsJ7_fill_53178) := goodIn_app (goodIn_r _ [88, 89, 90] rfl (by decide +kernel)) ggX6_fewestHands_J7_fill_53178
set_option maxRecDepth 100000 in
theorem ggX6_fewestHands_X5_turnTo : GoodIn wsX6_fewestHands wsX5_turnTo := goodIn_r _ [95, 17, 96, 29, 30, 31, 7, 32, 33, 22, 34, 24, 35, 133, 134, 135, 136, 137, 138, 139, 140, 141, 142, 143] rfl gd_wsX5_turnTo
set_option maxRecDepth 100000 in
theorem gX6_fewestHands_X5_turnTo : GoodIn wsX6_fewestHands (wsV RX6 41 RX5 yX5_turnTo wsX5_turnTo) := goodIn_app (goodIn_r _ [92, 93, 94, 7] rfl (by decide +kernel)) ggX6_fewestHands_X5_turnTo
set_option maxRecDepth 100000 in
theorem ggX6_fewestHands_X5_word : GoodIn wsX6_fewestHands wsX5_word := goodIn_r _ [100, 17, 96, 36, 37, 38, 7, 39, 40, 41, 42, 43, 44, 11, 12, 45, 46, 47, 48, 49, 50, 51, 52, 53, 54, 55, 56, 57, 58, 59, 22, 60, 61, 62, 63, 64, 65, 66, 67, 68, 69, 70, 71, 72, 73, 74, 75, 76, 77, 78, 79, 133, 134, 135, 136, 137, 138, 139, 140, 141, 142, 143, 144, 145, 146, 147, 148, 149, 150, 151, 152, 153, 154, 155] rfl gd_wsX5_word
set_option maxRecDepth 100000 in
theorem gX6_fewestHands_X5_word : GoodIn wsX6_fewestHands (wsV RX6 45 RX5 yX5_word wsX5_word) := goodIn_app (goodIn_r _ [97, 98, 99, 7] rfl (by decide +kernel)) ggX6_fewestHands_X5_word
set_option maxRecDepth 20000 in
theorem gd_wsX6_renew : wsX6_renew.all goodWord = true := by decide +kernel
set_option maxRecDepth 100000 in
theorem ggX6_fewestHands_X6_renew : GoodIn wsX6_fewestHands wsX6_renew := goodIn_r _ [105, 2, 106, 107, 108, 109, 110, 1, 111, 112, 113, 50, 47, 51, 114, 14, 15, 7, 16, 17, 119, 120, 121, 122, 123, 124, 125, 126, 127, 128, 129, 130, 131, 132, 133, 134, 135, 136, 137, 138, 139, 140, 141, 142, 143] rfl gd_wsX6_renew
set_option maxRecDepth 100000 in
theorem gX6_fewestHands_X6_renew : GoodIn wsX6_fewestHands (wsV RX6 93 RX6 yX6_renew wsX6_renew) := goodIn_app (goodIn_r _ [101, 102, 103, 104] rfl (by decide +kernel)) ggX6_fewestHands_X6_renew
set_option maxRecDepth 100000 in
theorem ggX6_fewestHands_X5_forward : GoodIn wsX6_fewestHands wsX5_forward := goodIn_r _ [118, 17, 96, 22, 133, 134, 135, 136, 137, 138, 139, 140, 141, 142, 143] rfl gd_wsX5_forward
set_option maxRecDepth 100000 in
theorem gX6_fewestHands_X5_forward : GoodIn wsX6_fewestHands (wsV RX6 53 RX5 yX5_forward wsX5_forward) := goodIn_app (goodIn_r _ [115, 116, 117, 7] rfl (by decide +kernel)) ggX6_fewestHands_X5_forward
theorem dX6_fewestHands_0 : decode cX6_fewestHands 0 = .ok (.aload_n 0, 1) := by decide +kernel
theorem dX6_fewestHands_1 : decode cX6_fewestHands 1 = .ok (.getfield 33, 3) := by decide +kernel
theorem dX6_fewestHands_4 : decode cX6_fewestHands 4 = .ok (.iload_n 1, 1) := by decide +kernel
theorem dX6_fewestHands_5 : decode cX6_fewestHands 5 = .ok (.iload_n 2, 1) := by decide +kernel
theorem dX6_fewestHands_6 : decode cX6_fewestHands 6 = .ok (.invokevirtual 37, 3) := by decide +kernel
theorem dX6_fewestHands_9 : decode cX6_fewestHands 9 = .ok (.ifCond .ne 6, 3) := by decide +kernel
theorem dX6_fewestHands_12 : decode cX6_fewestHands 12 = .ok (.bipush (-2), 2) := by decide +kernel
theorem dX6_fewestHands_14 : decode cX6_fewestHands 14 = .ok (.ireturn, 1) := by decide +kernel
theorem dX6_fewestHands_15 : decode cX6_fewestHands 15 = .ok (.aload_n 0, 1) := by decide +kernel
theorem dX6_fewestHands_16 : decode cX6_fewestHands 16 = .ok (.getfield 27, 3) := by decide +kernel
theorem dX6_fewestHands_19 : decode cX6_fewestHands 19 = .ok (.ldc 69, 2) := by decide +kernel
theorem dX6_fewestHands_21 : decode cX6_fewestHands 21 = .ok (.invokestatic 87, 3) := by decide +kernel
theorem dX6_fewestHands_24 : decode cX6_fewestHands 24 = .ok (.aload_n 0, 1) := by decide +kernel
theorem dX6_fewestHands_25 : decode cX6_fewestHands 25 = .ok (.getfield 27, 3) := by decide +kernel
theorem dX6_fewestHands_28 : decode cX6_fewestHands 28 = .ok (.iload_n 1, 1) := by decide +kernel
theorem dX6_fewestHands_29 : decode cX6_fewestHands 29 = .ok (.iconst 0, 1) := by decide +kernel
theorem dX6_fewestHands_30 : decode cX6_fewestHands 30 = .ok (.iastore, 1) := by decide +kernel
theorem dX6_fewestHands_31 : decode cX6_fewestHands 31 = .ok (.aload_n 0, 1) := by decide +kernel
theorem dX6_fewestHands_32 : decode cX6_fewestHands 32 = .ok (.getfield 33, 3) := by decide +kernel
theorem dX6_fewestHands_35 : decode cX6_fewestHands 35 = .ok (.iload_n 3, 1) := by decide +kernel
theorem dX6_fewestHands_36 : decode cX6_fewestHands 36 = .ok (.invokevirtual 41, 3) := by decide +kernel
theorem dX6_fewestHands_39 : decode cX6_fewestHands 39 = .ok (.iconst 0, 1) := by decide +kernel
theorem dX6_fewestHands_40 : decode cX6_fewestHands 40 = .ok (.istore 4, 2) := by decide +kernel
theorem dX6_fewestHands_42 : decode cX6_fewestHands 42 = .ok (.iload 4, 2) := by decide +kernel
theorem dX6_fewestHands_44 : decode cX6_fewestHands 44 = .ok (.sipush 600, 3) := by decide +kernel
theorem dX6_fewestHands_47 : decode cX6_fewestHands 47 = .ok (.if_icmp .ge 38, 3) := by decide +kernel
theorem dX6_fewestHands_50 : decode cX6_fewestHands 50 = .ok (.aload_n 0, 1) := by decide +kernel
theorem dX6_fewestHands_51 : decode cX6_fewestHands 51 = .ok (.getfield 27, 3) := by decide +kernel
theorem dX6_fewestHands_54 : decode cX6_fewestHands 54 = .ok (.iload_n 2, 1) := by decide +kernel
theorem dX6_fewestHands_55 : decode cX6_fewestHands 55 = .ok (.iaload, 1) := by decide +kernel
theorem dX6_fewestHands_56 : decode cX6_fewestHands 56 = .ok (.iconst 1, 1) := by decide +kernel
theorem dX6_fewestHands_57 : decode cX6_fewestHands 57 = .ok (.if_icmp .le 28, 3) := by decide +kernel
theorem dX6_fewestHands_60 : decode cX6_fewestHands 60 = .ok (.aload_n 0, 1) := by decide +kernel
theorem dX6_fewestHands_61 : decode cX6_fewestHands 61 = .ok (.aload_n 0, 1) := by decide +kernel
theorem dX6_fewestHands_62 : decode cX6_fewestHands 62 = .ok (.getfield 33, 3) := by decide +kernel
theorem dX6_fewestHands_65 : decode cX6_fewestHands 65 = .ok (.invokevirtual 45, 3) := by decide +kernel
theorem dX6_fewestHands_68 : decode cX6_fewestHands 68 = .ok (.iconst 1, 1) := by decide +kernel
theorem dX6_fewestHands_69 : decode cX6_fewestHands 69 = .ok (.invokevirtual 93, 3) := by decide +kernel
theorem dX6_fewestHands_72 : decode cX6_fewestHands 72 = .ok (.aload_n 0, 1) := by decide +kernel
theorem dX6_fewestHands_73 : decode cX6_fewestHands 73 = .ok (.getfield 33, 3) := by decide +kernel
theorem dX6_fewestHands_76 : decode cX6_fewestHands 76 = .ok (.invokevirtual 53, 3) := by decide +kernel
theorem dX6_fewestHands_79 : decode cX6_fewestHands 79 = .ok (.iinc 4 1, 3) := by decide +kernel
theorem dX6_fewestHands_82 : decode cX6_fewestHands 82 = .ok (.goto (-40), 3) := by decide +kernel
theorem dX6_fewestHands_85 : decode cX6_fewestHands 85 = .ok (.aload_n 0, 1) := by decide +kernel
theorem dX6_fewestHands_86 : decode cX6_fewestHands 86 = .ok (.getfield 27, 3) := by decide +kernel
theorem dX6_fewestHands_89 : decode cX6_fewestHands 89 = .ok (.iload_n 2, 1) := by decide +kernel
theorem dX6_fewestHands_90 : decode cX6_fewestHands 90 = .ok (.iaload, 1) := by decide +kernel
theorem dX6_fewestHands_91 : decode cX6_fewestHands 91 = .ok (.ldc 69, 2) := by decide +kernel
theorem dX6_fewestHands_93 : decode cX6_fewestHands 93 = .ok (.if_icmp .ge 12, 3) := by decide +kernel
theorem dX6_fewestHands_96 : decode cX6_fewestHands 96 = .ok (.aload_n 0, 1) := by decide +kernel
theorem dX6_fewestHands_97 : decode cX6_fewestHands 97 = .ok (.getfield 27, 3) := by decide +kernel
theorem dX6_fewestHands_100 : decode cX6_fewestHands 100 = .ok (.iload_n 2, 1) := by decide +kernel
theorem dX6_fewestHands_101 : decode cX6_fewestHands 101 = .ok (.iaload, 1) := by decide +kernel
theorem dX6_fewestHands_102 : decode cX6_fewestHands 102 = .ok (.goto 5, 3) := by decide +kernel
theorem dX6_fewestHands_105 : decode cX6_fewestHands 105 = .ok (.bipush (-2), 2) := by decide +kernel
theorem dX6_fewestHands_107 : decode cX6_fewestHands 107 = .ok (.ireturn, 1) := by decide +kernel
set_option maxRecDepth 100000 in
theorem ggX6_renew_X5_pairs : GoodIn wsX6_renew wsX5_pairs := goodIn_r _ [18, 19, 34, 35, 36, 37, 38, 39, 40, 41, 42, 43, 44] rfl gd_wsX5_pairs
set_option maxRecDepth 100000 in
theorem gX6_renew_X5_pairs : GoodIn wsX6_renew (wsV RX6 63 RX5 yX5_pairs wsX5_pairs) := goodIn_app (goodIn_r _ [14, 15, 16, 17] rfl (by decide +kernel)) ggX6_renew_X5_pairs
theorem dX6_renew_0 : decode cX6_renew 0 = .ok (.aload_n 0, 1) := by decide +kernel
theorem dX6_renew_1 : decode cX6_renew 1 = .ok (.getfield 27, 3) := by decide +kernel
theorem dX6_renew_4 : decode cX6_renew 4 = .ok (.iconst 0, 1) := by decide +kernel
theorem dX6_renew_5 : decode cX6_renew 5 = .ok (.aload_n 0, 1) := by decide +kernel
theorem dX6_renew_6 : decode cX6_renew 6 = .ok (.getfield 30, 3) := by decide +kernel
theorem dX6_renew_9 : decode cX6_renew 9 = .ok (.iconst 0, 1) := by decide +kernel
theorem dX6_renew_10 : decode cX6_renew 10 = .ok (.bipush 7, 2) := by decide +kernel
theorem dX6_renew_12 : decode cX6_renew 12 = .ok (.invokestatic 70, 3) := by decide +kernel
theorem dX6_renew_15 : decode cX6_renew 15 = .ok (.aload_n 0, 1) := by decide +kernel
theorem dX6_renew_16 : decode cX6_renew 16 = .ok (.getfield 33, 3) := by decide +kernel
theorem dX6_renew_19 : decode cX6_renew 19 = .ok (.invokevirtual 63, 3) := by decide +kernel
theorem dX6_renew_22 : decode cX6_renew 22 = .ok (.istore_n 3, 1) := by decide +kernel
theorem dX6_renew_23 : decode cX6_renew 23 = .ok (.iconst 0, 1) := by decide +kernel
theorem dX6_renew_24 : decode cX6_renew 24 = .ok (.istore 4, 2) := by decide +kernel
theorem dX6_renew_26 : decode cX6_renew 26 = .ok (.iload 4, 2) := by decide +kernel
theorem dX6_renew_28 : decode cX6_renew 28 = .ok (.iload_n 3, 1) := by decide +kernel
theorem dX6_renew_29 : decode cX6_renew 29 = .ok (.if_icmp .ge 86, 3) := by decide +kernel
theorem dX6_renew_32 : decode cX6_renew 32 = .ok (.iload_n 1, 1) := by decide +kernel
theorem dX6_renew_33 : decode cX6_renew 33 = .ok (.iload 4, 2) := by decide +kernel
theorem dX6_renew_35 : decode cX6_renew 35 = .ok (.iushr, 1) := by decide +kernel
theorem dX6_renew_36 : decode cX6_renew 36 = .ok (.iconst 1, 1) := by decide +kernel
theorem dX6_renew_37 : decode cX6_renew 37 = .ok (.iand, 1) := by decide +kernel
theorem dX6_renew_38 : decode cX6_renew 38 = .ok (.ifCond .eq 71, 3) := by decide +kernel
theorem dX6_renew_41 : decode cX6_renew 41 = .ok (.getstatic 76, 3) := by decide +kernel
theorem dX6_renew_44 : decode cX6_renew 44 = .ok (.iload 4, 2) := by decide +kernel
theorem dX6_renew_46 : decode cX6_renew 46 = .ok (.iaload, 1) := by decide +kernel
theorem dX6_renew_47 : decode cX6_renew 47 = .ok (.istore 5, 2) := by decide +kernel
theorem dX6_renew_49 : decode cX6_renew 49 = .ok (.getstatic 79, 3) := by decide +kernel
theorem dX6_renew_52 : decode cX6_renew 52 = .ok (.iload 4, 2) := by decide +kernel
theorem dX6_renew_54 : decode cX6_renew 54 = .ok (.iaload, 1) := by decide +kernel
theorem dX6_renew_55 : decode cX6_renew 55 = .ok (.istore 6, 2) := by decide +kernel
theorem dX6_renew_57 : decode cX6_renew 57 = .ok (.aload_n 0, 1) := by decide +kernel
theorem dX6_renew_58 : decode cX6_renew 58 = .ok (.getfield 30, 3) := by decide +kernel
theorem dX6_renew_61 : decode cX6_renew 61 = .ok (.iload 5, 2) := by decide +kernel
theorem dX6_renew_63 : decode cX6_renew 63 = .ok (.aload_n 0, 1) := by decide +kernel
theorem dX6_renew_64 : decode cX6_renew 64 = .ok (.getfield 30, 3) := by decide +kernel
theorem dX6_renew_67 : decode cX6_renew 67 = .ok (.iload 5, 2) := by decide +kernel
theorem dX6_renew_69 : decode cX6_renew 69 = .ok (.iaload, 1) := by decide +kernel
theorem dX6_renew_70 : decode cX6_renew 70 = .ok (.aload_n 0, 1) := by decide +kernel
theorem dX6_renew_71 : decode cX6_renew 71 = .ok (.getfield 27, 3) := by decide +kernel
theorem dX6_renew_74 : decode cX6_renew 74 = .ok (.iload 6, 2) := by decide +kernel
theorem dX6_renew_76 : decode cX6_renew 76 = .ok (.iaload, 1) := by decide +kernel
theorem dX6_renew_77 : decode cX6_renew 77 = .ok (.iload_n 2, 1) := by decide +kernel
theorem dX6_renew_78 : decode cX6_renew 78 = .ok (.iadd, 1) := by decide +kernel
theorem dX6_renew_79 : decode cX6_renew 79 = .ok (.invokestatic 82, 3) := by decide +kernel
theorem dX6_renew_82 : decode cX6_renew 82 = .ok (.iastore, 1) := by decide +kernel
theorem dX6_renew_83 : decode cX6_renew 83 = .ok (.aload_n 0, 1) := by decide +kernel
theorem dX6_renew_84 : decode cX6_renew 84 = .ok (.getfield 30, 3) := by decide +kernel
theorem dX6_renew_87 : decode cX6_renew 87 = .ok (.iload 6, 2) := by decide +kernel
theorem dX6_renew_89 : decode cX6_renew 89 = .ok (.aload_n 0, 1) := by decide +kernel
theorem dX6_renew_90 : decode cX6_renew 90 = .ok (.getfield 30, 3) := by decide +kernel
theorem dX6_renew_93 : decode cX6_renew 93 = .ok (.iload 6, 2) := by decide +kernel
theorem dX6_renew_95 : decode cX6_renew 95 = .ok (.iaload, 1) := by decide +kernel
theorem dX6_renew_96 : decode cX6_renew 96 = .ok (.aload_n 0, 1) := by decide +kernel
theorem dX6_renew_97 : decode cX6_renew 97 = .ok (.getfield 27, 3) := by decide +kernel
theorem dX6_renew_100 : decode cX6_renew 100 = .ok (.iload 5, 2) := by decide +kernel
theorem dX6_renew_102 : decode cX6_renew 102 = .ok (.iaload, 1) := by decide +kernel
theorem dX6_renew_103 : decode cX6_renew 103 = .ok (.iload_n 2, 1) := by decide +kernel
theorem dX6_renew_104 : decode cX6_renew 104 = .ok (.iadd, 1) := by decide +kernel
theorem dX6_renew_105 : decode cX6_renew 105 = .ok (.invokestatic 82, 3) := by decide +kernel
theorem dX6_renew_108 : decode cX6_renew 108 = .ok (.iastore, 1) := by decide +kernel
theorem dX6_renew_109 : decode cX6_renew 109 = .ok (.iinc 4 1, 3) := by decide +kernel
theorem dX6_renew_112 : decode cX6_renew 112 = .ok (.goto (-86), 3) := by decide +kernel
theorem dX6_renew_115 : decode cX6_renew 115 = .ok (.aload_n 0, 1) := by decide +kernel
theorem dX6_renew_116 : decode cX6_renew 116 = .ok (.getfield 27, 3) := by decide +kernel
theorem dX6_renew_119 : decode cX6_renew 119 = .ok (.astore 4, 2) := by decide +kernel
theorem dX6_renew_121 : decode cX6_renew 121 = .ok (.aload_n 0, 1) := by decide +kernel
theorem dX6_renew_122 : decode cX6_renew 122 = .ok (.aload_n 0, 1) := by decide +kernel
theorem dX6_renew_123 : decode cX6_renew 123 = .ok (.getfield 30, 3) := by decide +kernel
theorem dX6_renew_126 : decode cX6_renew 126 = .ok (.putfield 27, 3) := by decide +kernel
theorem dX6_renew_129 : decode cX6_renew 129 = .ok (.aload_n 0, 1) := by decide +kernel
theorem dX6_renew_130 : decode cX6_renew 130 = .ok (.aload 4, 2) := by decide +kernel
theorem dX6_renew_132 : decode cX6_renew 132 = .ok (.putfield 30, 3) := by decide +kernel
theorem dX6_renew_135 : decode cX6_renew 135 = .ok (.return_, 1) := by decide +kernel
set_option maxRecDepth 20000 in
theorem gd_wsX6_measureWait : wsX6_measureWait.all goodWord = true := by decide +kernel
set_option maxRecDepth 100000 in
theorem ggX6_learnWait_X6_measureWait : GoodIn wsX6_learnWait wsX6_measureWait := goodIn_r _ [10, 3, 11, 12, 13, 14, 15, 16, 17, 18, 19, 20, 21, 22, 23, 24, 25, 26, 27, 28, 29, 30, 31, 32, 33, 34, 35, 36, 37, 38, 39, 40, 41, 42, 43, 44, 45, 46, 47, 48, 49, 50, 51, 52, 53, 54, 55, 56, 57, 58, 59, 60, 61, 62, 63, 64, 65, 66, 67, 68, 69, 70, 71, 72, 73, 74, 75, 76, 77, 78, 79, 80, 81, 82, 83, 84, 85, 86, 87, 88, 89, 90, 91, 92, 93, 94, 95, 96, 9, 97, 98, 99, 100, 101, 102, 103, 104, 105, 106, 107, 108, 109, 110, 111, 112, 113, 114, 115, 116, 117, 118, 119, 120, 121, 122, 123, 124, 125, 126, 127, 128, 129, 130, 131, 132, 133, 134, 135, 136, 137, 138, 139, 140, 141, 142, 143, 144, 145, 146, 147, 148, 149, 150] rfl gd_wsX6_measureWait
set_option maxRecDepth 100000 in
theorem gX6_learnWait_X6_measureWait : GoodIn wsX6_learnWait (wsV RX6 102 RX6 yX6_measureWait wsX6_measureWait) := goodIn_app (goodIn_r _ [6, 7, 8, 9] rfl (by decide +kernel)) ggX6_learnWait_X6_measureWait
theorem dX6_learnWait_0 : decode cX6_learnWait 0 = .ok (.iload_n 1, 1) := by decide +kernel
theorem dX6_learnWait_1 : decode cX6_learnWait 1 = .ok (.bipush 10, 2) := by decide +kernel
theorem dX6_learnWait_3 : decode cX6_learnWait 3 = .ok (.imul, 1) := by decide +kernel
theorem dX6_learnWait_4 : decode cX6_learnWait 4 = .ok (.iload_n 2, 1) := by decide +kernel
theorem dX6_learnWait_5 : decode cX6_learnWait 5 = .ok (.iadd, 1) := by decide +kernel
theorem dX6_learnWait_6 : decode cX6_learnWait 6 = .ok (.istore_n 3, 1) := by decide +kernel
theorem dX6_learnWait_7 : decode cX6_learnWait 7 = .ok (.aload_n 0, 1) := by decide +kernel
theorem dX6_learnWait_8 : decode cX6_learnWait 8 = .ok (.getfield 9, 3) := by decide +kernel
theorem dX6_learnWait_11 : decode cX6_learnWait 11 = .ok (.iload_n 3, 1) := by decide +kernel
theorem dX6_learnWait_12 : decode cX6_learnWait 12 = .ok (.if_icmp .ne 17, 3) := by decide +kernel
theorem dX6_learnWait_15 : decode cX6_learnWait 15 = .ok (.aload_n 0, 1) := by decide +kernel
theorem dX6_learnWait_16 : decode cX6_learnWait 16 = .ok (.getfield 96, 3) := by decide +kernel
theorem dX6_learnWait_19 : decode cX6_learnWait 19 = .ok (.aload_n 0, 1) := by decide +kernel
theorem dX6_learnWait_20 : decode cX6_learnWait 20 = .ok (.getfield 33, 3) := by decide +kernel
theorem dX6_learnWait_23 : decode cX6_learnWait 23 = .ok (.getfield 99, 3) := by decide +kernel
theorem dX6_learnWait_26 : decode cX6_learnWait 26 = .ok (.if_icmp .eq 32, 3) := by decide +kernel
theorem dX6_learnWait_29 : decode cX6_learnWait 29 = .ok (.aload_n 0, 1) := by decide +kernel
theorem dX6_learnWait_30 : decode cX6_learnWait 30 = .ok (.aload_n 0, 1) := by decide +kernel
theorem dX6_learnWait_31 : decode cX6_learnWait 31 = .ok (.iload_n 1, 1) := by decide +kernel
theorem dX6_learnWait_32 : decode cX6_learnWait 32 = .ok (.iload_n 2, 1) := by decide +kernel
theorem dX6_learnWait_33 : decode cX6_learnWait 33 = .ok (.sipush 600, 3) := by decide +kernel
theorem dX6_learnWait_36 : decode cX6_learnWait 36 = .ok (.invokevirtual 102, 3) := by decide +kernel
theorem dX6_learnWait_39 : decode cX6_learnWait 39 = .ok (.putfield 106, 3) := by decide +kernel
theorem dX6_learnWait_42 : decode cX6_learnWait 42 = .ok (.aload_n 0, 1) := by decide +kernel
theorem dX6_learnWait_43 : decode cX6_learnWait 43 = .ok (.iload_n 3, 1) := by decide +kernel
theorem dX6_learnWait_44 : decode cX6_learnWait 44 = .ok (.putfield 9, 3) := by decide +kernel
theorem dX6_learnWait_47 : decode cX6_learnWait 47 = .ok (.aload_n 0, 1) := by decide +kernel
theorem dX6_learnWait_48 : decode cX6_learnWait 48 = .ok (.aload_n 0, 1) := by decide +kernel
theorem dX6_learnWait_49 : decode cX6_learnWait 49 = .ok (.getfield 33, 3) := by decide +kernel
theorem dX6_learnWait_52 : decode cX6_learnWait 52 = .ok (.getfield 99, 3) := by decide +kernel
theorem dX6_learnWait_55 : decode cX6_learnWait 55 = .ok (.putfield 96, 3) := by decide +kernel
theorem dX6_learnWait_58 : decode cX6_learnWait 58 = .ok (.aload_n 0, 1) := by decide +kernel
theorem dX6_learnWait_59 : decode cX6_learnWait 59 = .ok (.getfield 106, 3) := by decide +kernel
theorem dX6_learnWait_62 : decode cX6_learnWait 62 = .ok (.ireturn, 1) := by decide +kernel
set_option maxRecDepth 20000 in
theorem gd_wsX5_round : wsX5_round.all goodWord = true := by decide +kernel
set_option maxRecDepth 100000 in
theorem ggX6_measureWait_X5_round : GoodIn wsX6_measureWait wsX5_round := goodIn_r _ [10, 11, 12, 13, 14, 15, 16, 17, 18, 120, 121, 122, 123, 124, 125, 126, 127, 128, 129, 130] rfl gd_wsX5_round
set_option maxRecDepth 100000 in
theorem gX6_measureWait_X5_round : GoodIn wsX6_measureWait (wsV RX6 110 RX5 yX5_round wsX5_round) := goodIn_app (goodIn_r _ [6, 7, 8, 9] rfl (by decide +kernel)) ggX6_measureWait_X5_round
set_option maxRecDepth 100000 in
theorem ggX6_measureWait_J7_fill_53178 : GoodIn wsX6_measureWait wsJ7_fill_53178 := goodIn_r _ [22] rfl gd_wsJ7_fill_53178
set_option maxRecDepth 100000 in
theorem gX6_measureWait_J7_fill_53178 : GoodIn wsX6_measureWait (va_wsS RX6 87 yJ7_fill_53178 wsJ7_fill_53178) := goodIn_app (goodIn_r _ [19, 20, 21] rfl (by decide +kernel)) ggX6_measureWait_J7_fill_53178
set_option maxRecDepth 100000 in
theorem ggX6_measureWait_X5_turnTo : GoodIn wsX6_measureWait wsX5_turnTo := goodIn_r _ [26, 11, 27, 28, 29, 30, 9, 31, 32, 12, 33, 14, 34, 120, 121, 122, 123, 124, 125, 126, 127, 128, 129, 130] rfl gd_wsX5_turnTo
set_option maxRecDepth 100000 in
theorem gX6_measureWait_X5_turnTo : GoodIn wsX6_measureWait (wsV RX6 41 RX5 yX5_turnTo wsX5_turnTo) := goodIn_app (goodIn_r _ [23, 24, 25, 9] rfl (by decide +kernel)) ggX6_measureWait_X5_turnTo
set_option maxRecDepth 100000 in
theorem ggX6_measureWait_X5_word : GoodIn wsX6_measureWait wsX5_word := goodIn_r _ [38, 11, 27, 39, 40, 41, 9, 42, 43, 44, 45, 46, 47, 48, 49, 50, 51, 52, 53, 54, 55, 56, 57, 58, 59, 60, 61, 62, 63, 64, 12, 65, 66, 67, 68, 69, 70, 71, 72, 73, 74, 75, 76, 77, 78, 79, 80, 81, 82, 83, 84, 120, 121, 122, 123, 124, 125, 126, 127, 128, 129, 130, 131, 132, 133, 134, 135, 136, 137, 138, 139, 140, 141, 142] rfl gd_wsX5_word
set_option maxRecDepth 100000 in
theorem gX6_measureWait_X5_word : GoodIn wsX6_measureWait (wsV RX6 45 RX5 yX5_word wsX5_word) := goodIn_app (goodIn_r _ [35, 36, 37, 9] rfl (by decide +kernel)) ggX6_measureWait_X5_word
set_option maxRecDepth 100000 in
theorem ggX6_measureWait_X6_renew : GoodIn wsX6_measureWait wsX6_renew := goodIn_r _ [89, 2, 90, 91, 92, 93, 94, 1, 95, 96, 97, 55, 52, 56, 98, 99, 100, 9, 101, 11, 106, 107, 108, 109, 110, 111, 112, 113, 114, 115, 116, 117, 118, 119, 120, 121, 122, 123, 124, 125, 126, 127, 128, 129, 130] rfl gd_wsX6_renew
set_option maxRecDepth 100000 in
theorem gX6_measureWait_X6_renew : GoodIn wsX6_measureWait (wsV RX6 93 RX6 yX6_renew wsX6_renew) := goodIn_app (goodIn_r _ [85, 86, 87, 88] rfl (by decide +kernel)) ggX6_measureWait_X6_renew
set_option maxRecDepth 20000 in
theorem gd_wsX5_backward : wsX5_backward.all goodWord = true := by decide +kernel
set_option maxRecDepth 100000 in
theorem ggX6_measureWait_X5_backward : GoodIn wsX6_measureWait wsX5_backward := goodIn_r _ [105, 11, 27, 12, 120, 121, 122, 123, 124, 125, 126, 127, 128, 129, 130] rfl gd_wsX5_backward
set_option maxRecDepth 100000 in
theorem gX6_measureWait_X5_backward : GoodIn wsX6_measureWait (wsV RX6 119 RX5 yX5_backward wsX5_backward) := goodIn_app (goodIn_r _ [102, 103, 104, 9] rfl (by decide +kernel)) ggX6_measureWait_X5_backward
theorem dX6_measureWait_0 : decode cX6_measureWait 0 = .ok (.aload_n 0, 1) := by decide +kernel
theorem dX6_measureWait_1 : decode cX6_measureWait 1 = .ok (.getfield 33, 3) := by decide +kernel
theorem dX6_measureWait_4 : decode cX6_measureWait 4 = .ok (.invokevirtual 110, 3) := by decide +kernel
theorem dX6_measureWait_7 : decode cX6_measureWait 7 = .ok (.istore 4, 2) := by decide +kernel
theorem dX6_measureWait_9 : decode cX6_measureWait 9 = .ok (.iload 4, 2) := by decide +kernel
theorem dX6_measureWait_11 : decode cX6_measureWait 11 = .ok (.sipush 600, 3) := by decide +kernel
theorem dX6_measureWait_14 : decode cX6_measureWait 14 = .ok (.iadd, 1) := by decide +kernel
theorem dX6_measureWait_15 : decode cX6_measureWait 15 = .ok (.iconst 1, 1) := by decide +kernel
theorem dX6_measureWait_16 : decode cX6_measureWait 16 = .ok (.isub, 1) := by decide +kernel
theorem dX6_measureWait_17 : decode cX6_measureWait 17 = .ok (.istore 5, 2) := by decide +kernel
theorem dX6_measureWait_19 : decode cX6_measureWait 19 = .ok (.aload_n 0, 1) := by decide +kernel
theorem dX6_measureWait_20 : decode cX6_measureWait 20 = .ok (.getfield 27, 3) := by decide +kernel
theorem dX6_measureWait_23 : decode cX6_measureWait 23 = .ok (.ldc 69, 2) := by decide +kernel
theorem dX6_measureWait_25 : decode cX6_measureWait 25 = .ok (.invokestatic 87, 3) := by decide +kernel
theorem dX6_measureWait_28 : decode cX6_measureWait 28 = .ok (.aload_n 0, 1) := by decide +kernel
theorem dX6_measureWait_29 : decode cX6_measureWait 29 = .ok (.iconst 0, 1) := by decide +kernel
theorem dX6_measureWait_30 : decode cX6_measureWait 30 = .ok (.putfield 113, 3) := by decide +kernel
theorem dX6_measureWait_33 : decode cX6_measureWait 33 = .ok (.aload_n 0, 1) := by decide +kernel
theorem dX6_measureWait_34 : decode cX6_measureWait 34 = .ok (.iconst 0, 1) := by decide +kernel
theorem dX6_measureWait_35 : decode cX6_measureWait 35 = .ok (.putfield 116, 3) := by decide +kernel
theorem dX6_measureWait_38 : decode cX6_measureWait 38 = .ok (.aload_n 0, 1) := by decide +kernel
theorem dX6_measureWait_39 : decode cX6_measureWait 39 = .ok (.getfield 33, 3) := by decide +kernel
theorem dX6_measureWait_42 : decode cX6_measureWait 42 = .ok (.iload 5, 2) := by decide +kernel
theorem dX6_measureWait_44 : decode cX6_measureWait 44 = .ok (.invokevirtual 41, 3) := by decide +kernel
theorem dX6_measureWait_47 : decode cX6_measureWait 47 = .ok (.iload 5, 2) := by decide +kernel
theorem dX6_measureWait_49 : decode cX6_measureWait 49 = .ok (.istore 6, 2) := by decide +kernel
theorem dX6_measureWait_51 : decode cX6_measureWait 51 = .ok (.iload 6, 2) := by decide +kernel
theorem dX6_measureWait_53 : decode cX6_measureWait 53 = .ok (.ifCond .lt 85, 3) := by decide +kernel
theorem dX6_measureWait_56 : decode cX6_measureWait 56 = .ok (.aload_n 0, 1) := by decide +kernel
theorem dX6_measureWait_57 : decode cX6_measureWait 57 = .ok (.getfield 27, 3) := by decide +kernel
theorem dX6_measureWait_60 : decode cX6_measureWait 60 = .ok (.iload_n 2, 1) := by decide +kernel
theorem dX6_measureWait_61 : decode cX6_measureWait 61 = .ok (.iload 6, 2) := by decide +kernel
theorem dX6_measureWait_63 : decode cX6_measureWait 63 = .ok (.iconst 1, 1) := by decide +kernel
theorem dX6_measureWait_64 : decode cX6_measureWait 64 = .ok (.iadd, 1) := by decide +kernel
theorem dX6_measureWait_65 : decode cX6_measureWait 65 = .ok (.iastore, 1) := by decide +kernel
theorem dX6_measureWait_66 : decode cX6_measureWait 66 = .ok (.aload_n 0, 1) := by decide +kernel
theorem dX6_measureWait_67 : decode cX6_measureWait 67 = .ok (.aload_n 0, 1) := by decide +kernel
theorem dX6_measureWait_68 : decode cX6_measureWait 68 = .ok (.getfield 33, 3) := by decide +kernel
theorem dX6_measureWait_71 : decode cX6_measureWait 71 = .ok (.invokevirtual 45, 3) := by decide +kernel
theorem dX6_measureWait_74 : decode cX6_measureWait 74 = .ok (.iconst 0, 1) := by decide +kernel
theorem dX6_measureWait_75 : decode cX6_measureWait 75 = .ok (.invokevirtual 93, 3) := by decide +kernel
theorem dX6_measureWait_78 : decode cX6_measureWait 78 = .ok (.iload 6, 2) := by decide +kernel
theorem dX6_measureWait_80 : decode cX6_measureWait 80 = .ok (.iload 4, 2) := by decide +kernel
theorem dX6_measureWait_82 : decode cX6_measureWait 82 = .ok (.if_icmp .ge 43, 3) := by decide +kernel
theorem dX6_measureWait_85 : decode cX6_measureWait 85 = .ok (.aload_n 0, 1) := by decide +kernel
theorem dX6_measureWait_86 : decode cX6_measureWait 86 = .ok (.getfield 27, 3) := by decide +kernel
theorem dX6_measureWait_89 : decode cX6_measureWait 89 = .ok (.iload_n 1, 1) := by decide +kernel
theorem dX6_measureWait_90 : decode cX6_measureWait 90 = .ok (.iaload, 1) := by decide +kernel
theorem dX6_measureWait_91 : decode cX6_measureWait 91 = .ok (.iload 6, 2) := by decide +kernel
theorem dX6_measureWait_93 : decode cX6_measureWait 93 = .ok (.isub, 1) := by decide +kernel
theorem dX6_measureWait_94 : decode cX6_measureWait 94 = .ok (.istore 7, 2) := by decide +kernel
theorem dX6_measureWait_96 : decode cX6_measureWait 96 = .ok (.iload 7, 2) := by decide +kernel
theorem dX6_measureWait_98 : decode cX6_measureWait 98 = .ok (.iload_n 3, 1) := by decide +kernel
theorem dX6_measureWait_99 : decode cX6_measureWait 99 = .ok (.if_icmp .le 5, 3) := by decide +kernel
theorem dX6_measureWait_102 : decode cX6_measureWait 102 = .ok (.iconst 0, 1) := by decide +kernel
theorem dX6_measureWait_103 : decode cX6_measureWait 103 = .ok (.ireturn, 1) := by decide +kernel
theorem dX6_measureWait_104 : decode cX6_measureWait 104 = .ok (.iload 7, 2) := by decide +kernel
theorem dX6_measureWait_106 : decode cX6_measureWait 106 = .ok (.aload_n 0, 1) := by decide +kernel
theorem dX6_measureWait_107 : decode cX6_measureWait 107 = .ok (.getfield 113, 3) := by decide +kernel
theorem dX6_measureWait_110 : decode cX6_measureWait 110 = .ok (.if_icmp .lt 15, 3) := by decide +kernel
theorem dX6_measureWait_113 : decode cX6_measureWait 113 = .ok (.aload_n 0, 1) := by decide +kernel
theorem dX6_measureWait_114 : decode cX6_measureWait 114 = .ok (.iload 7, 2) := by decide +kernel
theorem dX6_measureWait_116 : decode cX6_measureWait 116 = .ok (.putfield 113, 3) := by decide +kernel
theorem dX6_measureWait_119 : decode cX6_measureWait 119 = .ok (.aload_n 0, 1) := by decide +kernel
theorem dX6_measureWait_120 : decode cX6_measureWait 120 = .ok (.iload 6, 2) := by decide +kernel
theorem dX6_measureWait_122 : decode cX6_measureWait 122 = .ok (.putfield 116, 3) := by decide +kernel
theorem dX6_measureWait_125 : decode cX6_measureWait 125 = .ok (.aload_n 0, 1) := by decide +kernel
theorem dX6_measureWait_126 : decode cX6_measureWait 126 = .ok (.getfield 33, 3) := by decide +kernel
theorem dX6_measureWait_129 : decode cX6_measureWait 129 = .ok (.invokevirtual 119, 3) := by decide +kernel
theorem dX6_measureWait_132 : decode cX6_measureWait 132 = .ok (.iinc 6 (-1), 3) := by decide +kernel
theorem dX6_measureWait_135 : decode cX6_measureWait 135 = .ok (.goto (-84), 3) := by decide +kernel
theorem dX6_measureWait_138 : decode cX6_measureWait 138 = .ok (.iconst 1, 1) := by decide +kernel
theorem dX6_measureWait_139 : decode cX6_measureWait 139 = .ok (.ireturn, 1) := by decide +kernel
set_option maxRecDepth 20000 in
theorem gd_wsX5_add : wsX5_add.all goodWord = true := by decide +kernel
set_option maxRecDepth 100000 in
theorem ggX6_learnRelay_X5_add : GoodIn wsX6_learnRelay wsX5_add := goodIn_r _ [13, 14, 15, 16, 17, 18, 19, 20, 12, 21, 22, 23, 24, 25, 26, 27, 28, 29, 30, 148, 149, 150, 151, 152, 153, 154, 155, 156, 157, 158] rfl gd_wsX5_add
set_option maxRecDepth 100000 in
theorem gX6_learnRelay_X5_add : GoodIn wsX6_learnRelay (wsV RX6 128 RX5 yX5_add wsX5_add) := goodIn_app (goodIn_r _ [9, 10, 11, 12] rfl (by decide +kernel)) ggX6_learnRelay_X5_add
set_option maxRecDepth 100000 in
theorem ggX6_learnRelay_X6_measureWait : GoodIn wsX6_learnRelay wsX6_measureWait := goodIn_r _ [35, 3, 36, 37, 7, 38, 39, 40, 41, 12, 42, 14, 15, 43, 44, 45, 46, 47, 48, 49, 50, 51, 52, 53, 54, 55, 56, 57, 58, 59, 60, 61, 16, 62, 63, 64, 65, 66, 67, 68, 69, 70, 71, 30, 72, 73, 74, 75, 22, 23, 76, 77, 78, 79, 80, 81, 82, 83, 84, 85, 17, 86, 87, 88, 89, 90, 91, 92, 93, 94, 95, 96, 97, 98, 99, 100, 101, 102, 103, 104, 105, 106, 107, 108, 109, 110, 111, 112, 34, 113, 114, 115, 116, 117, 118, 119, 120, 121, 122, 123, 124, 125, 126, 127, 128, 129, 134, 135, 136, 137, 138, 139, 140, 141, 142, 143, 144, 145, 146, 147, 148, 149, 150, 151, 152, 153, 154, 155, 156, 157, 158, 159, 160, 161, 162, 163, 164, 165, 166, 167, 168, 169, 170] rfl gd_wsX6_measureWait
set_option maxRecDepth 100000 in
theorem gX6_learnRelay_X6_measureWait : GoodIn wsX6_learnRelay (wsV RX6 102 RX6 yX6_measureWait wsX6_measureWait) := goodIn_app (goodIn_r _ [31, 32, 33, 34] rfl (by decide +kernel)) ggX6_learnRelay_X6_measureWait
set_option maxRecDepth 20000 in
theorem gd_wsX5_dropLast : wsX5_dropLast.all goodWord = true := by decide +kernel
set_option maxRecDepth 100000 in
theorem ggX6_learnRelay_X5_dropLast : GoodIn wsX6_learnRelay wsX5_dropLast := goodIn_r _ [133, 14, 18, 19, 20, 12, 21, 22, 23, 24, 25, 26, 27, 28, 29, 30, 148, 149, 150, 151, 152, 153, 154, 155, 156, 157, 158] rfl gd_wsX5_dropLast
set_option maxRecDepth 100000 in
theorem gX6_learnRelay_X5_dropLast : GoodIn wsX6_learnRelay (wsV RX6 138 RX5 yX5_dropLast wsX5_dropLast) := goodIn_app (goodIn_r _ [130, 131, 132, 12] rfl (by decide +kernel)) ggX6_learnRelay_X5_dropLast
theorem dX6_learnRelay_0 : decode cX6_learnRelay 0 = .ok (.iload_n 1, 1) := by decide +kernel
theorem dX6_learnRelay_1 : decode cX6_learnRelay 1 = .ok (.bipush 10, 2) := by decide +kernel
theorem dX6_learnRelay_3 : decode cX6_learnRelay 3 = .ok (.imul, 1) := by decide +kernel
theorem dX6_learnRelay_4 : decode cX6_learnRelay 4 = .ok (.iload_n 2, 1) := by decide +kernel
theorem dX6_learnRelay_5 : decode cX6_learnRelay 5 = .ok (.iadd, 1) := by decide +kernel
theorem dX6_learnRelay_6 : decode cX6_learnRelay 6 = .ok (.bipush 100, 2) := by decide +kernel
theorem dX6_learnRelay_8 : decode cX6_learnRelay 8 = .ok (.imul, 1) := by decide +kernel
theorem dX6_learnRelay_9 : decode cX6_learnRelay 9 = .ok (.iload_n 3, 1) := by decide +kernel
theorem dX6_learnRelay_10 : decode cX6_learnRelay 10 = .ok (.iadd, 1) := by decide +kernel
theorem dX6_learnRelay_11 : decode cX6_learnRelay 11 = .ok (.bipush 10, 2) := by decide +kernel
theorem dX6_learnRelay_13 : decode cX6_learnRelay 13 = .ok (.imul, 1) := by decide +kernel
theorem dX6_learnRelay_14 : decode cX6_learnRelay 14 = .ok (.iload 4, 2) := by decide +kernel
theorem dX6_learnRelay_16 : decode cX6_learnRelay 16 = .ok (.iadd, 1) := by decide +kernel
theorem dX6_learnRelay_17 : decode cX6_learnRelay 17 = .ok (.istore 5, 2) := by decide +kernel
theorem dX6_learnRelay_19 : decode cX6_learnRelay 19 = .ok (.aload_n 0, 1) := by decide +kernel
theorem dX6_learnRelay_20 : decode cX6_learnRelay 20 = .ok (.getfield 15, 3) := by decide +kernel
theorem dX6_learnRelay_23 : decode cX6_learnRelay 23 = .ok (.iload 5, 2) := by decide +kernel
theorem dX6_learnRelay_25 : decode cX6_learnRelay 25 = .ok (.if_icmp .ne 32, 3) := by decide +kernel
theorem dX6_learnRelay_28 : decode cX6_learnRelay 28 = .ok (.aload_n 0, 1) := by decide +kernel
theorem dX6_learnRelay_29 : decode cX6_learnRelay 29 = .ok (.getfield 122, 3) := by decide +kernel
theorem dX6_learnRelay_32 : decode cX6_learnRelay 32 = .ok (.aload_n 0, 1) := by decide +kernel
theorem dX6_learnRelay_33 : decode cX6_learnRelay 33 = .ok (.getfield 33, 3) := by decide +kernel
theorem dX6_learnRelay_36 : decode cX6_learnRelay 36 = .ok (.getfield 99, 3) := by decide +kernel
theorem dX6_learnRelay_39 : decode cX6_learnRelay 39 = .ok (.if_icmp .ne 18, 3) := by decide +kernel
theorem dX6_learnRelay_42 : decode cX6_learnRelay 42 = .ok (.aload_n 0, 1) := by decide +kernel
theorem dX6_learnRelay_43 : decode cX6_learnRelay 43 = .ok (.getfield 125, 3) := by decide +kernel
theorem dX6_learnRelay_46 : decode cX6_learnRelay 46 = .ok (.bipush (-2), 2) := by decide +kernel
theorem dX6_learnRelay_48 : decode cX6_learnRelay 48 = .ok (.if_icmp .eq 7, 3) := by decide +kernel
theorem dX6_learnRelay_51 : decode cX6_learnRelay 51 = .ok (.iconst 1, 1) := by decide +kernel
theorem dX6_learnRelay_52 : decode cX6_learnRelay 52 = .ok (.goto 4, 3) := by decide +kernel
theorem dX6_learnRelay_55 : decode cX6_learnRelay 55 = .ok (.iconst 0, 1) := by decide +kernel
theorem dX6_learnRelay_56 : decode cX6_learnRelay 56 = .ok (.ireturn, 1) := by decide +kernel
theorem dX6_learnRelay_57 : decode cX6_learnRelay 57 = .ok (.aload_n 0, 1) := by decide +kernel
theorem dX6_learnRelay_58 : decode cX6_learnRelay 58 = .ok (.bipush (-2), 2) := by decide +kernel
theorem dX6_learnRelay_60 : decode cX6_learnRelay 60 = .ok (.putfield 125, 3) := by decide +kernel
theorem dX6_learnRelay_63 : decode cX6_learnRelay 63 = .ok (.aload_n 0, 1) := by decide +kernel
theorem dX6_learnRelay_64 : decode cX6_learnRelay 64 = .ok (.getfield 33, 3) := by decide +kernel
theorem dX6_learnRelay_67 : decode cX6_learnRelay 67 = .ok (.iload_n 3, 1) := by decide +kernel
theorem dX6_learnRelay_68 : decode cX6_learnRelay 68 = .ok (.iconst 0, 1) := by decide +kernel
theorem dX6_learnRelay_69 : decode cX6_learnRelay 69 = .ok (.iload 4, 2) := by decide +kernel
theorem dX6_learnRelay_71 : decode cX6_learnRelay 71 = .ok (.invokevirtual 128, 3) := by decide +kernel
theorem dX6_learnRelay_74 : decode cX6_learnRelay 74 = .ok (.istore 6, 2) := by decide +kernel
theorem dX6_learnRelay_76 : decode cX6_learnRelay 76 = .ok (.iload 6, 2) := by decide +kernel
theorem dX6_learnRelay_78 : decode cX6_learnRelay 78 = .ok (.ifCond .ge 5, 3) := by decide +kernel
theorem dX6_learnRelay_81 : decode cX6_learnRelay 81 = .ok (.iconst 0, 1) := by decide +kernel
theorem dX6_learnRelay_82 : decode cX6_learnRelay 82 = .ok (.ireturn, 1) := by decide +kernel
theorem dX6_learnRelay_83 : decode cX6_learnRelay 83 = .ok (.sipush 600, 3) := by decide +kernel
theorem dX6_learnRelay_86 : decode cX6_learnRelay 86 = .ok (.istore 7, 2) := by decide +kernel
theorem dX6_learnRelay_88 : decode cX6_learnRelay 88 = .ok (.iconst 0, 1) := by decide +kernel
theorem dX6_learnRelay_89 : decode cX6_learnRelay 89 = .ok (.istore 8, 2) := by decide +kernel
theorem dX6_learnRelay_91 : decode cX6_learnRelay 91 = .ok (.iload 8, 2) := by decide +kernel
theorem dX6_learnRelay_93 : decode cX6_learnRelay 93 = .ok (.iload_n 3, 1) := by decide +kernel
theorem dX6_learnRelay_94 : decode cX6_learnRelay 94 = .ok (.if_icmp .ge 54, 3) := by decide +kernel
theorem dX6_learnRelay_97 : decode cX6_learnRelay 97 = .ok (.aload_n 0, 1) := by decide +kernel
theorem dX6_learnRelay_98 : decode cX6_learnRelay 98 = .ok (.getfield 33, 3) := by decide +kernel
theorem dX6_learnRelay_101 : decode cX6_learnRelay 101 = .ok (.getfield 132, 3) := by decide +kernel
theorem dX6_learnRelay_104 : decode cX6_learnRelay 104 = .ok (.iload 6, 2) := by decide +kernel
theorem dX6_learnRelay_106 : decode cX6_learnRelay 106 = .ok (.iload 8, 2) := by decide +kernel
theorem dX6_learnRelay_108 : decode cX6_learnRelay 108 = .ok (.iastore, 1) := by decide +kernel
theorem dX6_learnRelay_109 : decode cX6_learnRelay 109 = .ok (.aload_n 0, 1) := by decide +kernel
theorem dX6_learnRelay_110 : decode cX6_learnRelay 110 = .ok (.iload_n 1, 1) := by decide +kernel
theorem dX6_learnRelay_111 : decode cX6_learnRelay 111 = .ok (.iload_n 2, 1) := by decide +kernel
theorem dX6_learnRelay_112 : decode cX6_learnRelay 112 = .ok (.iload 7, 2) := by decide +kernel
theorem dX6_learnRelay_114 : decode cX6_learnRelay 114 = .ok (.invokevirtual 102, 3) := by decide +kernel
theorem dX6_learnRelay_117 : decode cX6_learnRelay 117 = .ok (.ifCond .eq 25, 3) := by decide +kernel
theorem dX6_learnRelay_120 : decode cX6_learnRelay 120 = .ok (.aload_n 0, 1) := by decide +kernel
theorem dX6_learnRelay_121 : decode cX6_learnRelay 121 = .ok (.iload 8, 2) := by decide +kernel
theorem dX6_learnRelay_123 : decode cX6_learnRelay 123 = .ok (.putfield 125, 3) := by decide +kernel
theorem dX6_learnRelay_126 : decode cX6_learnRelay 126 = .ok (.aload_n 0, 1) := by decide +kernel
theorem dX6_learnRelay_127 : decode cX6_learnRelay 127 = .ok (.aload_n 0, 1) := by decide +kernel
theorem dX6_learnRelay_128 : decode cX6_learnRelay 128 = .ok (.getfield 113, 3) := by decide +kernel
theorem dX6_learnRelay_131 : decode cX6_learnRelay 131 = .ok (.putfield 135, 3) := by decide +kernel
theorem dX6_learnRelay_134 : decode cX6_learnRelay 134 = .ok (.aload_n 0, 1) := by decide +kernel
theorem dX6_learnRelay_135 : decode cX6_learnRelay 135 = .ok (.getfield 135, 3) := by decide +kernel
theorem dX6_learnRelay_138 : decode cX6_learnRelay 138 = .ok (.iconst 1, 1) := by decide +kernel
theorem dX6_learnRelay_139 : decode cX6_learnRelay 139 = .ok (.isub, 1) := by decide +kernel
theorem dX6_learnRelay_140 : decode cX6_learnRelay 140 = .ok (.istore 7, 2) := by decide +kernel
theorem dX6_learnRelay_142 : decode cX6_learnRelay 142 = .ok (.iinc 8 1, 3) := by decide +kernel
theorem dX6_learnRelay_145 : decode cX6_learnRelay 145 = .ok (.goto (-54), 3) := by decide +kernel
theorem dX6_learnRelay_148 : decode cX6_learnRelay 148 = .ok (.aload_n 0, 1) := by decide +kernel
theorem dX6_learnRelay_149 : decode cX6_learnRelay 149 = .ok (.getfield 33, 3) := by decide +kernel
theorem dX6_learnRelay_152 : decode cX6_learnRelay 152 = .ok (.invokevirtual 138, 3) := by decide +kernel
theorem dX6_learnRelay_155 : decode cX6_learnRelay 155 = .ok (.aload_n 0, 1) := by decide +kernel
theorem dX6_learnRelay_156 : decode cX6_learnRelay 156 = .ok (.iload 5, 2) := by decide +kernel
theorem dX6_learnRelay_158 : decode cX6_learnRelay 158 = .ok (.putfield 15, 3) := by decide +kernel
theorem dX6_learnRelay_161 : decode cX6_learnRelay 161 = .ok (.aload_n 0, 1) := by decide +kernel
theorem dX6_learnRelay_162 : decode cX6_learnRelay 162 = .ok (.aload_n 0, 1) := by decide +kernel
theorem dX6_learnRelay_163 : decode cX6_learnRelay 163 = .ok (.getfield 33, 3) := by decide +kernel
theorem dX6_learnRelay_166 : decode cX6_learnRelay 166 = .ok (.getfield 99, 3) := by decide +kernel
theorem dX6_learnRelay_169 : decode cX6_learnRelay 169 = .ok (.putfield 122, 3) := by decide +kernel
theorem dX6_learnRelay_172 : decode cX6_learnRelay 172 = .ok (.aload_n 0, 1) := by decide +kernel
theorem dX6_learnRelay_173 : decode cX6_learnRelay 173 = .ok (.getfield 125, 3) := by decide +kernel
theorem dX6_learnRelay_176 : decode cX6_learnRelay 176 = .ok (.bipush (-2), 2) := by decide +kernel
theorem dX6_learnRelay_178 : decode cX6_learnRelay 178 = .ok (.if_icmp .eq 7, 3) := by decide +kernel
theorem dX6_learnRelay_181 : decode cX6_learnRelay 181 = .ok (.iconst 1, 1) := by decide +kernel
theorem dX6_learnRelay_182 : decode cX6_learnRelay 182 = .ok (.goto 4, 3) := by decide +kernel
theorem dX6_learnRelay_185 : decode cX6_learnRelay 185 = .ok (.iconst 0, 1) := by decide +kernel
theorem dX6_learnRelay_186 : decode cX6_learnRelay 186 = .ok (.ireturn, 1) := by decide +kernel
set_option maxRecDepth 20000 in
theorem gd_wsX2_init : wsX2_init.all goodWord = true := by decide +kernel
set_option maxRecDepth 100000 in
theorem ggX7_init_X2_init : GoodIn wsX7_init wsX2_init := goodIn_r _ [34, 35, 2, 3, 36, 37, 38, 39, 40, 41, 42, 43, 94, 95, 96, 97, 98, 99, 100, 101, 102, 103, 104, 105] rfl gd_wsX2_init
set_option maxRecDepth 20000 in
theorem gX7_init_X2_init_n9 : GoodIn wsX7_init (wsX2_init) := ggX7_init_X2_init
set_option maxRecDepth 20000 in
theorem gd_wsX5_init : wsX5_init.all goodWord = true := by decide +kernel
set_option maxRecDepth 100000 in
theorem ggX7_init_X5_init : GoodIn wsX7_init wsX5_init := goodIn_r _ [46, 47, 2, 3, 36, 48, 49, 50, 51, 52, 53, 54, 55, 117, 118, 119, 120, 121, 122, 123, 124, 125, 126, 127] rfl gd_wsX5_init
set_option maxRecDepth 20000 in
theorem gX7_init_X5_init : GoodIn wsX7_init (wsX5_init) := ggX7_init_X5_init
set_option maxRecDepth 20000 in
theorem gd_wsX6_init : wsX6_init.all goodWord = true := by decide +kernel
set_option maxRecDepth 100000 in
theorem ggX7_init_X6_init : GoodIn wsX7_init wsX6_init := goodIn_r _ [58, 59, 2, 3, 60, 61, 36, 62, 63, 64, 65, 66, 128, 129, 130, 131, 132, 133, 134, 135, 136, 137, 138, 139, 140, 141] rfl gd_wsX6_init
set_option maxRecDepth 20000 in
theorem gX7_init_X6_init : GoodIn wsX7_init (wsX6_init) := ggX7_init_X6_init
set_option maxRecDepth 20000 in
theorem gd_wsX0_init : wsX0_init.all goodWord = true := by decide +kernel
set_option maxRecDepth 100000 in
theorem ggX7_init_X0_init : GoodIn wsX7_init wsX0_init := goodIn_r _ [68, 69, 2, 3, 36, 70, 71, 72, 73, 142, 143, 144, 145, 146, 147] rfl gd_wsX0_init
set_option maxRecDepth 20000 in
theorem gX7_init_X0_init_n36 : GoodIn wsX7_init (wsX0_init) := ggX7_init_X0_init
set_option maxRecDepth 20000 in
theorem gd_wsX1_init : wsX1_init.all goodWord = true := by decide +kernel
set_option maxRecDepth 100000 in
theorem ggX7_init_X1_init : GoodIn wsX7_init wsX1_init := goodIn_r _ [75, 76, 2, 3, 36, 77, 78, 79, 80, 81, 148, 149, 150, 151, 152, 153, 154] rfl gd_wsX1_init
set_option maxRecDepth 20000 in
theorem gX7_init_X1_init_n43 : GoodIn wsX7_init (wsX1_init) := ggX7_init_X1_init
set_option maxRecDepth 20000 in
theorem gd_wsX3_init : wsX3_init.all goodWord = true := by decide +kernel
set_option maxRecDepth 100000 in
theorem ggX7_init_X3_init : GoodIn wsX7_init wsX3_init := goodIn_r _ [83, 84, 2, 3, 36, 85, 86, 155, 156, 157, 158, 159] rfl gd_wsX3_init
set_option maxRecDepth 20000 in
theorem gX7_init_X3_init_n53 : GoodIn wsX7_init (wsX3_init) := ggX7_init_X3_init
set_option maxRecDepth 20000 in
theorem gd_wsX4_init : wsX4_init.all goodWord = true := by decide +kernel
set_option maxRecDepth 100000 in
theorem ggX7_init_X4_init : GoodIn wsX7_init wsX4_init := goodIn_r _ [88, 89, 2, 3, 90, 91, 92, 93, 160, 161, 162, 163] rfl gd_wsX4_init
set_option maxRecDepth 20000 in
theorem gX7_init_X4_init_n64 : GoodIn wsX7_init (wsX4_init) := ggX7_init_X4_init
