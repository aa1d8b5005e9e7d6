set_option maxRecDepth 20000 in
theorem ggX8_init_X8_setSeat : GoodIn wsX8_init wsX8_setSeat := goodIn_r _ [15, 5, 16, 17, 18, 19, 20, 21, 22, 23, 24, 25, 26, 27] (by decide +kernel) (by decide +kernel)
set_option maxRecDepth 20000 in
theorem gX8_init_X8_setSeat : GoodIn wsX8_init (wsV RX8 28 RX8 yX8_setSeat wsX8_setSeat) := goodIn_app (goodIn_of _ (by decide +kernel)) ggX8_init_X8_setSeat
theorem dX8_init_0 : decode cX8_init 0 = .ok (.aload_n 0, 1) := by decide +kernel
theorem dX8_init_1 : decode cX8_init 1 = .ok (.invokespecial 1, 3) := by decide +kernel
theorem dX8_init_4 : decode cX8_init 4 = .ok (.aload_n 0, 1) := by decide +kernel
theorem dX8_init_5 : decode cX8_init 5 = .ok (.sipush 288, 3) := by decide +kernel
theorem dX8_init_8 : decode cX8_init 8 = .ok (.newarray .int, 2) := by decide +kernel
theorem dX8_init_10 : decode cX8_init 10 = .ok (.putfield 7, 3) := by decide +kernel
theorem dX8_init_13 : decode cX8_init 13 = .ok (.aload_n 0, 1) := by decide +kernel
theorem dX8_init_14 : decode cX8_init 14 = .ok (.sipush 288, 3) := by decide +kernel
theorem dX8_init_17 : decode cX8_init 17 = .ok (.newarray .int, 2) := by decide +kernel
theorem dX8_init_19 : decode cX8_init 19 = .ok (.putfield 13, 3) := by decide +kernel
theorem dX8_init_22 : decode cX8_init 22 = .ok (.aload_n 0, 1) := by decide +kernel
theorem dX8_init_23 : decode cX8_init 23 = .ok (.sipush 1728, 3) := by decide +kernel
theorem dX8_init_26 : decode cX8_init 26 = .ok (.newarray .int, 2) := by decide +kernel
theorem dX8_init_28 : decode cX8_init 28 = .ok (.putfield 16, 3) := by decide +kernel
theorem dX8_init_31 : decode cX8_init 31 = .ok (.aload_n 0, 1) := by decide +kernel
theorem dX8_init_32 : decode cX8_init 32 = .ok (.sipush 576, 3) := by decide +kernel
theorem dX8_init_35 : decode cX8_init 35 = .ok (.newarray .int, 2) := by decide +kernel
theorem dX8_init_37 : decode cX8_init 37 = .ok (.putfield 19, 3) := by decide +kernel
theorem dX8_init_40 : decode cX8_init 40 = .ok (.aload_n 0, 1) := by decide +kernel
theorem dX8_init_41 : decode cX8_init 41 = .ok (.iconst 2, 1) := by decide +kernel
theorem dX8_init_42 : decode cX8_init 42 = .ok (.newarray .int, 2) := by decide +kernel
theorem dX8_init_44 : decode cX8_init 44 = .ok (.putfield 22, 3) := by decide +kernel
theorem dX8_init_47 : decode cX8_init 47 = .ok (.aload_n 0, 1) := by decide +kernel
theorem dX8_init_48 : decode cX8_init 48 = .ok (.bipush 80, 2) := by decide +kernel
theorem dX8_init_50 : decode cX8_init 50 = .ok (.newarray .int, 2) := by decide +kernel
theorem dX8_init_52 : decode cX8_init 52 = .ok (.putfield 25, 3) := by decide +kernel
theorem dX8_init_55 : decode cX8_init 55 = .ok (.aload_n 0, 1) := by decide +kernel
theorem dX8_init_56 : decode cX8_init 56 = .ok (.getfield 7, 3) := by decide +kernel
theorem dX8_init_59 : decode cX8_init 59 = .ok (.iconst 0, 1) := by decide +kernel
theorem dX8_init_60 : decode cX8_init 60 = .ok (.bipush 10, 2) := by decide +kernel
theorem dX8_init_62 : decode cX8_init 62 = .ok (.iastore, 1) := by decide +kernel
theorem dX8_init_63 : decode cX8_init 63 = .ok (.aload_n 0, 1) := by decide +kernel
theorem dX8_init_64 : decode cX8_init 64 = .ok (.getfield 7, 3) := by decide +kernel
theorem dX8_init_67 : decode cX8_init 67 = .ok (.iconst 1, 1) := by decide +kernel
theorem dX8_init_68 : decode cX8_init 68 = .ok (.sipush 200, 3) := by decide +kernel
theorem dX8_init_71 : decode cX8_init 71 = .ok (.iastore, 1) := by decide +kernel
theorem dX8_init_72 : decode cX8_init 72 = .ok (.aload_n 0, 1) := by decide +kernel
theorem dX8_init_73 : decode cX8_init 73 = .ok (.getfield 7, 3) := by decide +kernel
theorem dX8_init_76 : decode cX8_init 76 = .ok (.iconst 2, 1) := by decide +kernel
theorem dX8_init_77 : decode cX8_init 77 = .ok (.bipush 60, 2) := by decide +kernel
theorem dX8_init_79 : decode cX8_init 79 = .ok (.iastore, 1) := by decide +kernel
theorem dX8_init_80 : decode cX8_init 80 = .ok (.aload_n 0, 1) := by decide +kernel
theorem dX8_init_81 : decode cX8_init 81 = .ok (.getfield 7, 3) := by decide +kernel
theorem dX8_init_84 : decode cX8_init 84 = .ok (.iconst 3, 1) := by decide +kernel
theorem dX8_init_85 : decode cX8_init 85 = .ok (.iconst 2, 1) := by decide +kernel
theorem dX8_init_86 : decode cX8_init 86 = .ok (.iastore, 1) := by decide +kernel
theorem dX8_init_87 : decode cX8_init 87 = .ok (.aload_n 0, 1) := by decide +kernel
theorem dX8_init_88 : decode cX8_init 88 = .ok (.getfield 7, 3) := by decide +kernel
theorem dX8_init_91 : decode cX8_init 91 = .ok (.iconst 4, 1) := by decide +kernel
theorem dX8_init_92 : decode cX8_init 92 = .ok (.iconst 3, 1) := by decide +kernel
theorem dX8_init_93 : decode cX8_init 93 = .ok (.iastore, 1) := by decide +kernel
theorem dX8_init_94 : decode cX8_init 94 = .ok (.aload_n 0, 1) := by decide +kernel
theorem dX8_init_95 : decode cX8_init 95 = .ok (.getfield 7, 3) := by decide +kernel
theorem dX8_init_98 : decode cX8_init 98 = .ok (.iconst 5, 1) := by decide +kernel
theorem dX8_init_99 : decode cX8_init 99 = .ok (.bipush 50, 2) := by decide +kernel
theorem dX8_init_101 : decode cX8_init 101 = .ok (.iastore, 1) := by decide +kernel
theorem dX8_init_102 : decode cX8_init 102 = .ok (.iconst 0, 1) := by decide +kernel
theorem dX8_init_103 : decode cX8_init 103 = .ok (.istore_n 1, 1) := by decide +kernel
theorem dX8_init_104 : decode cX8_init 104 = .ok (.iload_n 1, 1) := by decide +kernel
theorem dX8_init_105 : decode cX8_init 105 = .ok (.bipush 30, 2) := by decide +kernel
theorem dX8_init_107 : decode cX8_init 107 = .ok (.if_icmp .ge 16, 3) := by decide +kernel
theorem dX8_init_110 : decode cX8_init 110 = .ok (.aload_n 0, 1) := by decide +kernel
theorem dX8_init_111 : decode cX8_init 111 = .ok (.iload_n 1, 1) := by decide +kernel
theorem dX8_init_112 : decode cX8_init 112 = .ok (.iconst 0, 1) := by decide +kernel
theorem dX8_init_113 : decode cX8_init 113 = .ok (.iconst 3, 1) := by decide +kernel
theorem dX8_init_114 : decode cX8_init 114 = .ok (.invokevirtual 28, 3) := by decide +kernel
theorem dX8_init_117 : decode cX8_init 117 = .ok (.iinc 1 1, 3) := by decide +kernel
theorem dX8_init_120 : decode cX8_init 120 = .ok (.goto (-16), 3) := by decide +kernel
theorem dX8_init_123 : decode cX8_init 123 = .ok (.return_, 1) := by decide +kernel
theorem dX8_within_0 : decode cX8_within 0 = .ok (.iload_n 0, 1) := by decide +kernel
theorem dX8_within_1 : decode cX8_within 1 = .ok (.iload_n 1, 1) := by decide +kernel
theorem dX8_within_2 : decode cX8_within 2 = .ok (.if_icmp .lt 12, 3) := by decide +kernel
theorem dX8_within_5 : decode cX8_within 5 = .ok (.iload_n 0, 1) := by decide +kernel
theorem dX8_within_6 : decode cX8_within 6 = .ok (.iload_n 2, 1) := by decide +kernel
theorem dX8_within_7 : decode cX8_within 7 = .ok (.if_icmp .gt 7, 3) := by decide +kernel
theorem dX8_within_10 : decode cX8_within 10 = .ok (.iconst 1, 1) := by decide +kernel
theorem dX8_within_11 : decode cX8_within 11 = .ok (.goto 4, 3) := by decide +kernel
theorem dX8_within_14 : decode cX8_within 14 = .ok (.iconst 0, 1) := by decide +kernel
theorem dX8_within_15 : decode cX8_within 15 = .ok (.ireturn, 1) := by decide +kernel
set_option maxRecDepth 20000 in
theorem ggX8_isSeat_X8_within : GoodIn wsX8_isSeat wsX8_within := goodIn_r _ [4] (by decide +kernel) (by decide +kernel)
set_option maxRecDepth 20000 in
theorem gX8_isSeat_X8_within : GoodIn wsX8_isSeat (va_wsS RX8 32 yX8_within wsX8_within) := goodIn_app (goodIn_of _ (by decide +kernel)) ggX8_isSeat_X8_within
theorem dX8_isSeat_0 : decode cX8_isSeat 0 = .ok (.iload_n 0, 1) := by decide +kernel
theorem dX8_isSeat_1 : decode cX8_isSeat 1 = .ok (.iconst 0, 1) := by decide +kernel
theorem dX8_isSeat_2 : decode cX8_isSeat 2 = .ok (.bipush 29, 2) := by decide +kernel
theorem dX8_isSeat_4 : decode cX8_isSeat 4 = .ok (.invokestatic 32, 3) := by decide +kernel
theorem dX8_isSeat_7 : decode cX8_isSeat 7 = .ok (.ireturn, 1) := by decide +kernel
set_option maxRecDepth 20000 in
theorem ggX8_isPerformer_X8_within : GoodIn wsX8_isPerformer wsX8_within := goodIn_r _ [4] (by decide +kernel) (by decide +kernel)
set_option maxRecDepth 20000 in
theorem gX8_isPerformer_X8_within : GoodIn wsX8_isPerformer (va_wsS RX8 32 yX8_within wsX8_within) := goodIn_app (goodIn_of _ (by decide +kernel)) ggX8_isPerformer_X8_within
theorem dX8_isPerformer_0 : decode cX8_isPerformer 0 = .ok (.iload_n 0, 1) := by decide +kernel
theorem dX8_isPerformer_1 : decode cX8_isPerformer 1 = .ok (.iconst 0, 1) := by decide +kernel
theorem dX8_isPerformer_2 : decode cX8_isPerformer 2 = .ok (.iconst 5, 1) := by decide +kernel
theorem dX8_isPerformer_3 : decode cX8_isPerformer 3 = .ok (.invokestatic 32, 3) := by decide +kernel
theorem dX8_isPerformer_6 : decode cX8_isPerformer 6 = .ok (.ireturn, 1) := by decide +kernel
theorem dX8_seat_0 : decode cX8_seat 0 = .ok (.aload_n 0, 1) := by decide +kernel
theorem dX8_seat_1 : decode cX8_seat 1 = .ok (.getfield 7, 3) := by decide +kernel
theorem dX8_seat_4 : decode cX8_seat 4 = .ok (.bipush 20, 2) := by decide +kernel
theorem dX8_seat_6 : decode cX8_seat 6 = .ok (.bipush 6, 2) := by decide +kernel
theorem dX8_seat_8 : decode cX8_seat 8 = .ok (.iload_n 1, 1) := by decide +kernel
theorem dX8_seat_9 : decode cX8_seat 9 = .ok (.imul, 1) := by decide +kernel
theorem dX8_seat_10 : decode cX8_seat 10 = .ok (.iadd, 1) := by decide +kernel
theorem dX8_seat_11 : decode cX8_seat 11 = .ok (.iload_n 2, 1) := by decide +kernel
theorem dX8_seat_12 : decode cX8_seat 12 = .ok (.iadd, 1) := by decide +kernel
theorem dX8_seat_13 : decode cX8_seat 13 = .ok (.iaload, 1) := by decide +kernel
theorem dX8_seat_14 : decode cX8_seat 14 = .ok (.ireturn, 1) := by decide +kernel
theorem dX8_setSeat_0 : decode cX8_setSeat 0 = .ok (.aload_n 0, 1) := by decide +kernel
theorem dX8_setSeat_1 : decode cX8_setSeat 1 = .ok (.getfield 7, 3) := by decide +kernel
theorem dX8_setSeat_4 : decode cX8_setSeat 4 = .ok (.bipush 20, 2) := by decide +kernel
theorem dX8_setSeat_6 : decode cX8_setSeat 6 = .ok (.bipush 6, 2) := by decide +kernel
theorem dX8_setSeat_8 : decode cX8_setSeat 8 = .ok (.iload_n 1, 1) := by decide +kernel
theorem dX8_setSeat_9 : decode cX8_setSeat 9 = .ok (.imul, 1) := by decide +kernel
theorem dX8_setSeat_10 : decode cX8_setSeat 10 = .ok (.iadd, 1) := by decide +kernel
theorem dX8_setSeat_11 : decode cX8_setSeat 11 = .ok (.iload_n 2, 1) := by decide +kernel
theorem dX8_setSeat_12 : decode cX8_setSeat 12 = .ok (.iadd, 1) := by decide +kernel
theorem dX8_setSeat_13 : decode cX8_setSeat 13 = .ok (.iload_n 3, 1) := by decide +kernel
theorem dX8_setSeat_14 : decode cX8_setSeat 14 = .ok (.iastore, 1) := by decide +kernel
theorem dX8_setSeat_15 : decode cX8_setSeat 15 = .ok (.return_, 1) := by decide +kernel
theorem dX8_ofPerformer_0 : decode cX8_ofPerformer 0 = .ok (.aload_n 0, 1) := by decide +kernel
theorem dX8_ofPerformer_1 : decode cX8_ofPerformer 1 = .ok (.getfield 7, 3) := by decide +kernel
theorem dX8_ofPerformer_4 : decode cX8_ofPerformer 4 = .ok (.sipush 200, 3) := by decide +kernel
theorem dX8_ofPerformer_7 : decode cX8_ofPerformer 7 = .ok (.iconst 3, 1) := by decide +kernel
theorem dX8_ofPerformer_8 : decode cX8_ofPerformer 8 = .ok (.iload_n 1, 1) := by decide +kernel
theorem dX8_ofPerformer_9 : decode cX8_ofPerformer 9 = .ok (.imul, 1) := by decide +kernel
theorem dX8_ofPerformer_10 : decode cX8_ofPerformer 10 = .ok (.iadd, 1) := by decide +kernel
theorem dX8_ofPerformer_11 : decode cX8_ofPerformer 11 = .ok (.iload_n 2, 1) := by decide +kernel
theorem dX8_ofPerformer_12 : decode cX8_ofPerformer 12 = .ok (.iadd, 1) := by decide +kernel
theorem dX8_ofPerformer_13 : decode cX8_ofPerformer 13 = .ok (.iaload, 1) := by decide +kernel
theorem dX8_ofPerformer_14 : decode cX8_ofPerformer 14 = .ok (.ireturn, 1) := by decide +kernel
theorem dX8_putAside_0 : decode cX8_putAside 0 = .ok (.iconst 0, 1) := by decide +kernel
theorem dX8_putAside_1 : decode cX8_putAside 1 = .ok (.istore_n 1, 1) := by decide +kernel
theorem dX8_putAside_2 : decode cX8_putAside 2 = .ok (.iload_n 1, 1) := by decide +kernel
theorem dX8_putAside_3 : decode cX8_putAside 3 = .ok (.sipush 288, 3) := by decide +kernel
theorem dX8_putAside_6 : decode cX8_putAside 6 = .ok (.if_icmp .ge 21, 3) := by decide +kernel
theorem dX8_putAside_9 : decode cX8_putAside 9 = .ok (.aload_n 0, 1) := by decide +kernel
theorem dX8_putAside_10 : decode cX8_putAside 10 = .ok (.getfield 13, 3) := by decide +kernel
theorem dX8_putAside_13 : decode cX8_putAside 13 = .ok (.iload_n 1, 1) := by decide +kernel
theorem dX8_putAside_14 : decode cX8_putAside 14 = .ok (.aload_n 0, 1) := by decide +kernel
theorem dX8_putAside_15 : decode cX8_putAside 15 = .ok (.getfield 7, 3) := by decide +kernel
theorem dX8_putAside_18 : decode cX8_putAside 18 = .ok (.iload_n 1, 1) := by decide +kernel
theorem dX8_putAside_19 : decode cX8_putAside 19 = .ok (.iaload, 1) := by decide +kernel
theorem dX8_putAside_20 : decode cX8_putAside 20 = .ok (.iastore, 1) := by decide +kernel
theorem dX8_putAside_21 : decode cX8_putAside 21 = .ok (.iinc 1 1, 3) := by decide +kernel
theorem dX8_putAside_24 : decode cX8_putAside 24 = .ok (.goto (-22), 3) := by decide +kernel
theorem dX8_putAside_27 : decode cX8_putAside 27 = .ok (.return_, 1) := by decide +kernel
theorem dX8_push_0 : decode cX8_push 0 = .ok (.aload_n 0, 1) := by decide +kernel
theorem dX8_push_1 : decode cX8_push 1 = .ok (.getfield 36, 3) := by decide +kernel
theorem dX8_push_4 : decode cX8_push 4 = .ok (.bipush 6, 2) := by decide +kernel
theorem dX8_push_6 : decode cX8_push 6 = .ok (.if_icmp .ne 44, 3) := by decide +kernel
theorem dX8_push_9 : decode cX8_push 9 = .ok (.iconst 0, 1) := by decide +kernel
theorem dX8_push_10 : decode cX8_push 10 = .ok (.istore_n 1, 1) := by decide +kernel
theorem dX8_push_11 : decode cX8_push 11 = .ok (.iload_n 1, 1) := by decide +kernel
theorem dX8_push_12 : decode cX8_push 12 = .ok (.sipush 1440, 3) := by decide +kernel
theorem dX8_push_15 : decode cX8_push 15 = .ok (.if_icmp .ge 25, 3) := by decide +kernel
theorem dX8_push_18 : decode cX8_push 18 = .ok (.aload_n 0, 1) := by decide +kernel
theorem dX8_push_19 : decode cX8_push 19 = .ok (.getfield 16, 3) := by decide +kernel
theorem dX8_push_22 : decode cX8_push 22 = .ok (.iload_n 1, 1) := by decide +kernel
theorem dX8_push_23 : decode cX8_push 23 = .ok (.aload_n 0, 1) := by decide +kernel
theorem dX8_push_24 : decode cX8_push 24 = .ok (.getfield 16, 3) := by decide +kernel
theorem dX8_push_27 : decode cX8_push 27 = .ok (.iload_n 1, 1) := by decide +kernel
theorem dX8_push_28 : decode cX8_push 28 = .ok (.sipush 288, 3) := by decide +kernel
theorem dX8_push_31 : decode cX8_push 31 = .ok (.iadd, 1) := by decide +kernel
theorem dX8_push_32 : decode cX8_push 32 = .ok (.iaload, 1) := by decide +kernel
theorem dX8_push_33 : decode cX8_push 33 = .ok (.iastore, 1) := by decide +kernel
theorem dX8_push_34 : decode cX8_push 34 = .ok (.iinc 1 1, 3) := by decide +kernel
theorem dX8_push_37 : decode cX8_push 37 = .ok (.goto (-26), 3) := by decide +kernel
theorem dX8_push_40 : decode cX8_push 40 = .ok (.aload_n 0, 1) := by decide +kernel
theorem dX8_push_41 : decode cX8_push 41 = .ok (.dup, 1) := by decide +kernel
theorem dX8_push_42 : decode cX8_push 42 = .ok (.getfield 36, 3) := by decide +kernel
theorem dX8_push_45 : decode cX8_push 45 = .ok (.iconst 1, 1) := by decide +kernel
theorem dX8_push_46 : decode cX8_push 46 = .ok (.isub, 1) := by decide +kernel
theorem dX8_push_47 : decode cX8_push 47 = .ok (.putfield 36, 3) := by decide +kernel
theorem dX8_push_50 : decode cX8_push 50 = .ok (.iconst 0, 1) := by decide +kernel
theorem dX8_push_51 : decode cX8_push 51 = .ok (.istore_n 1, 1) := by decide +kernel
theorem dX8_push_52 : decode cX8_push 52 = .ok (.iload_n 1, 1) := by decide +kernel
theorem dX8_push_53 : decode cX8_push 53 = .ok (.sipush 288, 3) := by decide +kernel
theorem dX8_push_56 : decode cX8_push 56 = .ok (.if_icmp .ge 30, 3) := by decide +kernel
theorem dX8_push_59 : decode cX8_push 59 = .ok (.aload_n 0, 1) := by decide +kernel
theorem dX8_push_60 : decode cX8_push 60 = .ok (.getfield 16, 3) := by decide +kernel
theorem dX8_push_63 : decode cX8_push 63 = .ok (.aload_n 0, 1) := by decide +kernel
theorem dX8_push_64 : decode cX8_push 64 = .ok (.getfield 36, 3) := by decide +kernel
theorem dX8_push_67 : decode cX8_push 67 = .ok (.sipush 288, 3) := by decide +kernel
theorem dX8_push_70 : decode cX8_push 70 = .ok (.imul, 1) := by decide +kernel
theorem dX8_push_71 : decode cX8_push 71 = .ok (.iload_n 1, 1) := by decide +kernel
theorem dX8_push_72 : decode cX8_push 72 = .ok (.iadd, 1) := by decide +kernel
theorem dX8_push_73 : decode cX8_push 73 = .ok (.aload_n 0, 1) := by decide +kernel
theorem dX8_push_74 : decode cX8_push 74 = .ok (.getfield 13, 3) := by decide +kernel
theorem dX8_push_77 : decode cX8_push 77 = .ok (.iload_n 1, 1) := by decide +kernel
theorem dX8_push_78 : decode cX8_push 78 = .ok (.iaload, 1) := by decide +kernel
theorem dX8_push_79 : decode cX8_push 79 = .ok (.iastore, 1) := by decide +kernel
theorem dX8_push_80 : decode cX8_push 80 = .ok (.iinc 1 1, 3) := by decide +kernel
theorem dX8_push_83 : decode cX8_push 83 = .ok (.goto (-31), 3) := by decide +kernel
theorem dX8_push_86 : decode cX8_push 86 = .ok (.aload_n 0, 1) := by decide +kernel
theorem dX8_push_87 : decode cX8_push 87 = .ok (.dup, 1) := by decide +kernel
theorem dX8_push_88 : decode cX8_push 88 = .ok (.getfield 36, 3) := by decide +kernel
theorem dX8_push_91 : decode cX8_push 91 = .ok (.iconst 1, 1) := by decide +kernel
theorem dX8_push_92 : decode cX8_push 92 = .ok (.iadd, 1) := by decide +kernel
theorem dX8_push_93 : decode cX8_push 93 = .ok (.putfield 36, 3) := by decide +kernel
theorem dX8_push_96 : decode cX8_push 96 = .ok (.return_, 1) := by decide +kernel
set_option maxRecDepth 20000 in
theorem ggX8_recorded_X8_push : GoodIn wsX8_recorded wsX8_push := goodIn_r _ [5, 6, 7, 8, 9, 10, 11, 12, 13, 14, 15, 16, 17, 18, 19, 20] (by decide +kernel) (by decide +kernel)
set_option maxRecDepth 20000 in
theorem gX8_recorded_X8_push : GoodIn wsX8_recorded (wsV RX8 40 RX8 yX8_push wsX8_push) := goodIn_app (goodIn_of _ (by decide +kernel)) ggX8_recorded_X8_push
theorem dX8_recorded_0 : decode cX8_recorded 0 = .ok (.iload_n 1, 1) := by decide +kernel
theorem dX8_recorded_1 : decode cX8_recorded 1 = .ok (.ifCond .lt 7, 3) := by decide +kernel
theorem dX8_recorded_4 : decode cX8_recorded 4 = .ok (.aload_n 0, 1) := by decide +kernel
theorem dX8_recorded_5 : decode cX8_recorded 5 = .ok (.invokevirtual 40, 3) := by decide +kernel
theorem dX8_recorded_8 : decode cX8_recorded 8 = .ok (.iload_n 1, 1) := by decide +kernel
theorem dX8_recorded_9 : decode cX8_recorded 9 = .ok (.ireturn, 1) := by decide +kernel
theorem dX8_undo_0 : decode cX8_undo 0 = .ok (.aload_n 0, 1) := by decide +kernel
theorem dX8_undo_1 : decode cX8_undo 1 = .ok (.getfield 36, 3) := by decide +kernel
theorem dX8_undo_4 : decode cX8_undo 4 = .ok (.ifCond .ne 6, 3) := by decide +kernel
theorem dX8_undo_7 : decode cX8_undo 7 = .ok (.bipush (-5), 2) := by decide +kernel
theorem dX8_undo_9 : decode cX8_undo 9 = .ok (.ireturn, 1) := by decide +kernel
theorem dX8_undo_10 : decode cX8_undo 10 = .ok (.aload_n 0, 1) := by decide +kernel
theorem dX8_undo_11 : decode cX8_undo 11 = .ok (.dup, 1) := by decide +kernel
theorem dX8_undo_12 : decode cX8_undo 12 = .ok (.getfield 36, 3) := by decide +kernel
theorem dX8_undo_15 : decode cX8_undo 15 = .ok (.iconst 1, 1) := by decide +kernel
theorem dX8_undo_16 : decode cX8_undo 16 = .ok (.isub, 1) := by decide +kernel
theorem dX8_undo_17 : decode cX8_undo 17 = .ok (.putfield 36, 3) := by decide +kernel
theorem dX8_undo_20 : decode cX8_undo 20 = .ok (.iconst 0, 1) := by decide +kernel
theorem dX8_undo_21 : decode cX8_undo 21 = .ok (.istore_n 1, 1) := by decide +kernel
theorem dX8_undo_22 : decode cX8_undo 22 = .ok (.iload_n 1, 1) := by decide +kernel
theorem dX8_undo_23 : decode cX8_undo 23 = .ok (.sipush 288, 3) := by decide +kernel
theorem dX8_undo_26 : decode cX8_undo 26 = .ok (.if_icmp .ge 30, 3) := by decide +kernel
theorem dX8_undo_29 : decode cX8_undo 29 = .ok (.aload_n 0, 1) := by decide +kernel
theorem dX8_undo_30 : decode cX8_undo 30 = .ok (.getfield 7, 3) := by decide +kernel
theorem dX8_undo_33 : decode cX8_undo 33 = .ok (.iload_n 1, 1) := by decide +kernel
theorem dX8_undo_34 : decode cX8_undo 34 = .ok (.aload_n 0, 1) := by decide +kernel
theorem dX8_undo_35 : decode cX8_undo 35 = .ok (.getfield 16, 3) := by decide +kernel
theorem dX8_undo_38 : decode cX8_undo 38 = .ok (.aload_n 0, 1) := by decide +kernel
theorem dX8_undo_39 : decode cX8_undo 39 = .ok (.getfield 36, 3) := by decide +kernel
theorem dX8_undo_42 : decode cX8_undo 42 = .ok (.sipush 288, 3) := by decide +kernel
theorem dX8_undo_45 : decode cX8_undo 45 = .ok (.imul, 1) := by decide +kernel
theorem dX8_undo_46 : decode cX8_undo 46 = .ok (.iload_n 1, 1) := by decide +kernel
theorem dX8_undo_47 : decode cX8_undo 47 = .ok (.iadd, 1) := by decide +kernel
theorem dX8_undo_48 : decode cX8_undo 48 = .ok (.iaload, 1) := by decide +kernel
theorem dX8_undo_49 : decode cX8_undo 49 = .ok (.iastore, 1) := by decide +kernel
theorem dX8_undo_50 : decode cX8_undo 50 = .ok (.iinc 1 1, 3) := by decide +kernel
theorem dX8_undo_53 : decode cX8_undo 53 = .ok (.goto (-31), 3) := by decide +kernel
theorem dX8_undo_56 : decode cX8_undo 56 = .ok (.aload_n 0, 1) := by decide +kernel
theorem dX8_undo_57 : decode cX8_undo 57 = .ok (.getfield 36, 3) := by decide +kernel
theorem dX8_undo_60 : decode cX8_undo 60 = .ok (.ireturn, 1) := by decide +kernel
set_option maxRecDepth 20000 in
theorem ggX8_isSlot_X8_within : GoodIn wsX8_isSlot wsX8_within := goodIn_r _ [4] (by decide +kernel) (by decide +kernel)
set_option maxRecDepth 20000 in
theorem gX8_isSlot_X8_within : GoodIn wsX8_isSlot (va_wsS RX8 32 yX8_within wsX8_within) := goodIn_app (goodIn_of _ (by decide +kernel)) ggX8_isSlot_X8_within
theorem dX8_isSlot_0 : decode cX8_isSlot 0 = .ok (.iload_n 0, 1) := by decide +kernel
theorem dX8_isSlot_1 : decode cX8_isSlot 1 = .ok (.iconst 0, 1) := by decide +kernel
theorem dX8_isSlot_2 : decode cX8_isSlot 2 = .ok (.iconst 1, 1) := by decide +kernel
theorem dX8_isSlot_3 : decode cX8_isSlot 3 = .ok (.invokestatic 32, 3) := by decide +kernel
theorem dX8_isSlot_6 : decode cX8_isSlot 6 = .ok (.ireturn, 1) := by decide +kernel
set_option maxRecDepth 20000 in
theorem ggX8_save_X8_isSlot : GoodIn wsX8_save wsX8_isSlot := goodIn_r _ [7, 8, 9, 6, 10] (by decide +kernel) (by decide +kernel)
set_option maxRecDepth 20000 in
theorem gX8_save_X8_isSlot : GoodIn wsX8_save (va_wsS RX8 43 yX8_isSlot wsX8_isSlot) := goodIn_app (goodIn_of _ (by decide +kernel)) ggX8_save_X8_isSlot
theorem dX8_save_0 : decode cX8_save 0 = .ok (.iload_n 1, 1) := by decide +kernel
theorem dX8_save_1 : decode cX8_save 1 = .ok (.invokestatic 43, 3) := by decide +kernel
theorem dX8_save_4 : decode cX8_save 4 = .ok (.ifCond .ne 6, 3) := by decide +kernel
theorem dX8_save_7 : decode cX8_save 7 = .ok (.bipush (-2), 2) := by decide +kernel
theorem dX8_save_9 : decode cX8_save 9 = .ok (.ireturn, 1) := by decide +kernel
theorem dX8_save_10 : decode cX8_save 10 = .ok (.iconst 0, 1) := by decide +kernel
theorem dX8_save_11 : decode cX8_save 11 = .ok (.istore_n 2, 1) := by decide +kernel
theorem dX8_save_12 : decode cX8_save 12 = .ok (.iload_n 2, 1) := by decide +kernel
theorem dX8_save_13 : decode cX8_save 13 = .ok (.sipush 288, 3) := by decide +kernel
theorem dX8_save_16 : decode cX8_save 16 = .ok (.if_icmp .ge 27, 3) := by decide +kernel
theorem dX8_save_19 : decode cX8_save 19 = .ok (.aload_n 0, 1) := by decide +kernel
theorem dX8_save_20 : decode cX8_save 20 = .ok (.getfield 19, 3) := by decide +kernel
theorem dX8_save_23 : decode cX8_save 23 = .ok (.iload_n 1, 1) := by decide +kernel
theorem dX8_save_24 : decode cX8_save 24 = .ok (.sipush 288, 3) := by decide +kernel
theorem dX8_save_27 : decode cX8_save 27 = .ok (.imul, 1) := by decide +kernel
theorem dX8_save_28 : decode cX8_save 28 = .ok (.iload_n 2, 1) := by decide +kernel
theorem dX8_save_29 : decode cX8_save 29 = .ok (.iadd, 1) := by decide +kernel
theorem dX8_save_30 : decode cX8_save 30 = .ok (.aload_n 0, 1) := by decide +kernel
theorem dX8_save_31 : decode cX8_save 31 = .ok (.getfield 7, 3) := by decide +kernel
theorem dX8_save_34 : decode cX8_save 34 = .ok (.iload_n 2, 1) := by decide +kernel
theorem dX8_save_35 : decode cX8_save 35 = .ok (.iaload, 1) := by decide +kernel
theorem dX8_save_36 : decode cX8_save 36 = .ok (.iastore, 1) := by decide +kernel
theorem dX8_save_37 : decode cX8_save 37 = .ok (.iinc 2 1, 3) := by decide +kernel
theorem dX8_save_40 : decode cX8_save 40 = .ok (.goto (-28), 3) := by decide +kernel
theorem dX8_save_43 : decode cX8_save 43 = .ok (.aload_n 0, 1) := by decide +kernel
theorem dX8_save_44 : decode cX8_save 44 = .ok (.getfield 22, 3) := by decide +kernel
theorem dX8_save_47 : decode cX8_save 47 = .ok (.iload_n 1, 1) := by decide +kernel
theorem dX8_save_48 : decode cX8_save 48 = .ok (.iconst 1, 1) := by decide +kernel
theorem dX8_save_49 : decode cX8_save 49 = .ok (.iastore, 1) := by decide +kernel
theorem dX8_save_50 : decode cX8_save 50 = .ok (.aload_n 0, 1) := by decide +kernel
theorem dX8_save_51 : decode cX8_save 51 = .ok (.getfield 7, 3) := by decide +kernel
theorem dX8_save_54 : decode cX8_save 54 = .ok (.bipush 8, 2) := by decide +kernel
theorem dX8_save_56 : decode cX8_save 56 = .ok (.iaload, 1) := by decide +kernel
theorem dX8_save_57 : decode cX8_save 57 = .ok (.ireturn, 1) := by decide +kernel
set_option maxRecDepth 20000 in
theorem ggX8_restore_X8_isSlot : GoodIn wsX8_restore wsX8_isSlot := goodIn_r _ [7, 8, 9, 6, 10] (by decide +kernel) (by decide +kernel)
set_option maxRecDepth 20000 in
theorem gX8_restore_X8_isSlot : GoodIn wsX8_restore (va_wsS RX8 43 yX8_isSlot wsX8_isSlot) := goodIn_app (goodIn_of _ (by decide +kernel)) ggX8_restore_X8_isSlot
set_option maxRecDepth 20000 in
theorem ggX8_restore_X8_putAside : GoodIn wsX8_restore wsX8_putAside := goodIn_r _ [14, 15, 2, 22, 23, 24, 25, 26, 27, 28, 29, 30, 31, 32, 33] (by decide +kernel) (by decide +kernel)
set_option maxRecDepth 20000 in
theorem gX8_restore_X8_putAside : GoodIn wsX8_restore (wsV RX8 47 RX8 yX8_putAside wsX8_putAside) := goodIn_app (goodIn_of _ (by decide +kernel)) ggX8_restore_X8_putAside
set_option maxRecDepth 20000 in
theorem ggX8_restore_X8_push : GoodIn wsX8_restore wsX8_push := goodIn_r _ [19, 20, 21, 15, 22, 23, 24, 25, 26, 27, 28, 29, 30, 31, 32, 33] (by decide +kernel) (by decide +kernel)
set_option maxRecDepth 20000 in
theorem gX8_restore_X8_push : GoodIn wsX8_restore (wsV RX8 40 RX8 yX8_push wsX8_push) := goodIn_app (goodIn_of _ (by decide +kernel)) ggX8_restore_X8_push
theorem dX8_restore_0 : decode cX8_restore 0 = .ok (.iload_n 1, 1) := by decide +kernel
theorem dX8_restore_1 : decode cX8_restore 1 = .ok (.invokestatic 43, 3) := by decide +kernel
theorem dX8_restore_4 : decode cX8_restore 4 = .ok (.ifCond .ne 6, 3) := by decide +kernel
theorem dX8_restore_7 : decode cX8_restore 7 = .ok (.bipush (-2), 2) := by decide +kernel
theorem dX8_restore_9 : decode cX8_restore 9 = .ok (.ireturn, 1) := by decide +kernel
theorem dX8_restore_10 : decode cX8_restore 10 = .ok (.aload_n 0, 1) := by decide +kernel
theorem dX8_restore_11 : decode cX8_restore 11 = .ok (.getfield 22, 3) := by decide +kernel
theorem dX8_restore_14 : decode cX8_restore 14 = .ok (.iload_n 1, 1) := by decide +kernel
theorem dX8_restore_15 : decode cX8_restore 15 = .ok (.iaload, 1) := by decide +kernel
theorem dX8_restore_16 : decode cX8_restore 16 = .ok (.ifCond .ne 6, 3) := by decide +kernel
theorem dX8_restore_19 : decode cX8_restore 19 = .ok (.bipush (-5), 2) := by decide +kernel
theorem dX8_restore_21 : decode cX8_restore 21 = .ok (.ireturn, 1) := by decide +kernel
theorem dX8_restore_22 : decode cX8_restore 22 = .ok (.aload_n 0, 1) := by decide +kernel
theorem dX8_restore_23 : decode cX8_restore 23 = .ok (.invokevirtual 47, 3) := by decide +kernel
theorem dX8_restore_26 : decode cX8_restore 26 = .ok (.aload_n 0, 1) := by decide +kernel
theorem dX8_restore_27 : decode cX8_restore 27 = .ok (.invokevirtual 40, 3) := by decide +kernel
theorem dX8_restore_30 : decode cX8_restore 30 = .ok (.iconst 0, 1) := by decide +kernel
theorem dX8_restore_31 : decode cX8_restore 31 = .ok (.istore_n 2, 1) := by decide +kernel
theorem dX8_restore_32 : decode cX8_restore 32 = .ok (.iload_n 2, 1) := by decide +kernel
theorem dX8_restore_33 : decode cX8_restore 33 = .ok (.sipush 288, 3) := by decide +kernel
theorem dX8_restore_36 : decode cX8_restore 36 = .ok (.if_icmp .ge 27, 3) := by decide +kernel
theorem dX8_restore_39 : decode cX8_restore 39 = .ok (.aload_n 0, 1) := by decide +kernel
theorem dX8_restore_40 : decode cX8_restore 40 = .ok (.getfield 7, 3) := by decide +kernel
theorem dX8_restore_43 : decode cX8_restore 43 = .ok (.iload_n 2, 1) := by decide +kernel
theorem dX8_restore_44 : decode cX8_restore 44 = .ok (.aload_n 0, 1) := by decide +kernel
theorem dX8_restore_45 : decode cX8_restore 45 = .ok (.getfield 19, 3) := by decide +kernel
theorem dX8_restore_48 : decode cX8_restore 48 = .ok (.iload_n 1, 1) := by decide +kernel
theorem dX8_restore_49 : decode cX8_restore 49 = .ok (.sipush 288, 3) := by decide +kernel
theorem dX8_restore_52 : decode cX8_restore 52 = .ok (.imul, 1) := by decide +kernel
theorem dX8_restore_53 : decode cX8_restore 53 = .ok (.iload_n 2, 1) := by decide +kernel
theorem dX8_restore_54 : decode cX8_restore 54 = .ok (.iadd, 1) := by decide +kernel
theorem dX8_restore_55 : decode cX8_restore 55 = .ok (.iaload, 1) := by decide +kernel
theorem dX8_restore_56 : decode cX8_restore 56 = .ok (.iastore, 1) := by decide +kernel
theorem dX8_restore_57 : decode cX8_restore 57 = .ok (.iinc 2 1, 3) := by decide +kernel
theorem dX8_restore_60 : decode cX8_restore 60 = .ok (.goto (-28), 3) := by decide +kernel
theorem dX8_restore_63 : decode cX8_restore 63 = .ok (.aload_n 0, 1) := by decide +kernel
theorem dX8_restore_64 : decode cX8_restore 64 = .ok (.getfield 7, 3) := by decide +kernel
theorem dX8_restore_67 : decode cX8_restore 67 = .ok (.bipush 8, 2) := by decide +kernel
theorem dX8_restore_69 : decode cX8_restore 69 = .ok (.iaload, 1) := by decide +kernel
theorem dX8_restore_70 : decode cX8_restore 70 = .ok (.ireturn, 1) := by decide +kernel
theorem dX8_owedFor_0 : decode cX8_owedFor 0 = .ok (.aload_n 0, 1) := by decide +kernel
theorem dX8_owedFor_1 : decode cX8_owedFor 1 = .ok (.getfield 7, 3) := by decide +kernel
theorem dX8_owedFor_4 : decode cX8_owedFor 4 = .ok (.bipush 7, 2) := by decide +kernel
theorem dX8_owedFor_6 : decode cX8_owedFor 6 = .ok (.iaload, 1) := by decide +kernel
theorem dX8_owedFor_7 : decode cX8_owedFor 7 = .ok (.aload_n 0, 1) := by decide +kernel
theorem dX8_owedFor_8 : decode cX8_owedFor 8 = .ok (.getfield 7, 3) := by decide +kernel
theorem dX8_owedFor_11 : decode cX8_owedFor 11 = .ok (.sipush 218, 3) := by decide +kernel
theorem dX8_owedFor_14 : decode cX8_owedFor 14 = .ok (.iconst 2, 1) := by decide +kernel
theorem dX8_owedFor_15 : decode cX8_owedFor 15 = .ok (.iload_n 1, 1) := by decide +kernel
theorem dX8_owedFor_16 : decode cX8_owedFor 16 = .ok (.imul, 1) := by decide +kernel
theorem dX8_owedFor_17 : decode cX8_owedFor 17 = .ok (.iadd, 1) := by decide +kernel
theorem dX8_owedFor_18 : decode cX8_owedFor 18 = .ok (.iconst 1, 1) := by decide +kernel
theorem dX8_owedFor_19 : decode cX8_owedFor 19 = .ok (.iadd, 1) := by decide +kernel
theorem dX8_owedFor_20 : decode cX8_owedFor 20 = .ok (.iaload, 1) := by decide +kernel
theorem dX8_owedFor_21 : decode cX8_owedFor 21 = .ok (.isub, 1) := by decide +kernel
theorem dX8_owedFor_22 : decode cX8_owedFor 22 = .ok (.ireturn, 1) := by decide +kernel
theorem dX8_countLapse_0 : decode cX8_countLapse 0 = .ok (.aload_n 0, 1) := by decide +kernel
theorem dX8_countLapse_1 : decode cX8_countLapse 1 = .ok (.getfield 7, 3) := by decide +kernel
theorem dX8_countLapse_4 : decode cX8_countLapse 4 = .ok (.sipush 200, 3) := by decide +kernel
theorem dX8_countLapse_7 : decode cX8_countLapse 7 = .ok (.iconst 3, 1) := by decide +kernel
theorem dX8_countLapse_8 : decode cX8_countLapse 8 = .ok (.iload_n 1, 1) := by decide +kernel
theorem dX8_countLapse_9 : decode cX8_countLapse 9 = .ok (.imul, 1) := by decide +kernel
theorem dX8_countLapse_10 : decode cX8_countLapse 10 = .ok (.iadd, 1) := by decide +kernel
theorem dX8_countLapse_11 : decode cX8_countLapse 11 = .ok (.iconst 1, 1) := by decide +kernel
theorem dX8_countLapse_12 : decode cX8_countLapse 12 = .ok (.iadd, 1) := by decide +kernel
theorem dX8_countLapse_13 : decode cX8_countLapse 13 = .ok (.dup2, 1) := by decide +kernel
theorem dX8_countLapse_14 : decode cX8_countLapse 14 = .ok (.iaload, 1) := by decide +kernel
theorem dX8_countLapse_15 : decode cX8_countLapse 15 = .ok (.iconst 1, 1) := by decide +kernel
theorem dX8_countLapse_16 : decode cX8_countLapse 16 = .ok (.iadd, 1) := by decide +kernel
theorem dX8_countLapse_17 : decode cX8_countLapse 17 = .ok (.iastore, 1) := by decide +kernel
theorem dX8_countLapse_18 : decode cX8_countLapse 18 = .ok (.aload_n 0, 1) := by decide +kernel
theorem dX8_countLapse_19 : decode cX8_countLapse 19 = .ok (.getfield 7, 3) := by decide +kernel
theorem dX8_countLapse_22 : decode cX8_countLapse 22 = .ok (.bipush 11, 2) := by decide +kernel
theorem dX8_countLapse_24 : decode cX8_countLapse 24 = .ok (.dup2, 1) := by decide +kernel
theorem dX8_countLapse_25 : decode cX8_countLapse 25 = .ok (.iaload, 1) := by decide +kernel
theorem dX8_countLapse_26 : decode cX8_countLapse 26 = .ok (.iconst 1, 1) := by decide +kernel
theorem dX8_countLapse_27 : decode cX8_countLapse 27 = .ok (.iadd, 1) := by decide +kernel
theorem dX8_countLapse_28 : decode cX8_countLapse 28 = .ok (.iastore, 1) := by decide +kernel
theorem dX8_countLapse_29 : decode cX8_countLapse 29 = .ok (.return_, 1) := by decide +kernel
set_option maxRecDepth 20000 in
theorem ggX8_owe_X8_countLapse : GoodIn wsX8_owe wsX8_countLapse := goodIn_r _ [6, 1, 7, 8, 9, 10, 11, 12, 13, 14, 15, 16, 17, 18] (by decide +kernel) (by decide +kernel)
set_option maxRecDepth 20000 in
theorem gX8_owe_X8_countLapse : GoodIn wsX8_owe (wsV RX8 50 RX8 yX8_countLapse wsX8_countLapse) := goodIn_app (goodIn_of _ (by decide +kernel)) ggX8_owe_X8_countLapse
theorem dX8_owe_0 : decode cX8_owe 0 = .ok (.aload_n 0, 1) := by decide +kernel
theorem dX8_owe_1 : decode cX8_owe 1 = .ok (.getfield 7, 3) := by decide +kernel
theorem dX8_owe_4 : decode cX8_owe 4 = .ok (.bipush 16, 2) := by decide +kernel
theorem dX8_owe_6 : decode cX8_owe 6 = .ok (.iconst 1, 1) := by decide +kernel
theorem dX8_owe_7 : decode cX8_owe 7 = .ok (.iastore, 1) := by decide +kernel
theorem dX8_owe_8 : decode cX8_owe 8 = .ok (.aload_n 0, 1) := by decide +kernel
theorem dX8_owe_9 : decode cX8_owe 9 = .ok (.getfield 7, 3) := by decide +kernel
theorem dX8_owe_12 : decode cX8_owe 12 = .ok (.bipush 17, 2) := by decide +kernel
theorem dX8_owe_14 : decode cX8_owe 14 = .ok (.iaload, 1) := by decide +kernel
theorem dX8_owe_15 : decode cX8_owe 15 = .ok (.bipush 8, 2) := by decide +kernel
theorem dX8_owe_17 : decode cX8_owe 17 = .ok (.if_icmp .ne 11, 3) := by decide +kernel
theorem dX8_owe_20 : decode cX8_owe 20 = .ok (.aload_n 0, 1) := by decide +kernel
theorem dX8_owe_21 : decode cX8_owe 21 = .ok (.iload_n 1, 1) := by decide +kernel
theorem dX8_owe_22 : decode cX8_owe 22 = .ok (.invokevirtual 50, 3) := by decide +kernel
theorem dX8_owe_25 : decode cX8_owe 25 = .ok (.goto 60, 3) := by decide +kernel
theorem dX8_owe_28 : decode cX8_owe 28 = .ok (.aload_n 0, 1) := by decide +kernel
theorem dX8_owe_29 : decode cX8_owe 29 = .ok (.getfield 7, 3) := by decide +kernel
theorem dX8_owe_32 : decode cX8_owe 32 = .ok (.sipush 218, 3) := by decide +kernel
theorem dX8_owe_35 : decode cX8_owe 35 = .ok (.iconst 2, 1) := by decide +kernel
theorem dX8_owe_36 : decode cX8_owe 36 = .ok (.aload_n 0, 1) := by decide +kernel
theorem dX8_owe_37 : decode cX8_owe 37 = .ok (.getfield 7, 3) := by decide +kernel
theorem dX8_owe_40 : decode cX8_owe 40 = .ok (.bipush 17, 2) := by decide +kernel
theorem dX8_owe_42 : decode cX8_owe 42 = .ok (.iaload, 1) := by decide +kernel
theorem dX8_owe_43 : decode cX8_owe 43 = .ok (.imul, 1) := by decide +kernel
theorem dX8_owe_44 : decode cX8_owe 44 = .ok (.iadd, 1) := by decide +kernel
theorem dX8_owe_45 : decode cX8_owe 45 = .ok (.iload_n 1, 1) := by decide +kernel
theorem dX8_owe_46 : decode cX8_owe 46 = .ok (.iastore, 1) := by decide +kernel
theorem dX8_owe_47 : decode cX8_owe 47 = .ok (.aload_n 0, 1) := by decide +kernel
theorem dX8_owe_48 : decode cX8_owe 48 = .ok (.getfield 7, 3) := by decide +kernel
theorem dX8_owe_51 : decode cX8_owe 51 = .ok (.sipush 218, 3) := by decide +kernel
theorem dX8_owe_54 : decode cX8_owe 54 = .ok (.iconst 2, 1) := by decide +kernel
theorem dX8_owe_55 : decode cX8_owe 55 = .ok (.aload_n 0, 1) := by decide +kernel
theorem dX8_owe_56 : decode cX8_owe 56 = .ok (.getfield 7, 3) := by decide +kernel
theorem dX8_owe_59 : decode cX8_owe 59 = .ok (.bipush 17, 2) := by decide +kernel
theorem dX8_owe_61 : decode cX8_owe 61 = .ok (.iaload, 1) := by decide +kernel
theorem dX8_owe_62 : decode cX8_owe 62 = .ok (.imul, 1) := by decide +kernel
theorem dX8_owe_63 : decode cX8_owe 63 = .ok (.iadd, 1) := by decide +kernel
theorem dX8_owe_64 : decode cX8_owe 64 = .ok (.iconst 1, 1) := by decide +kernel
theorem dX8_owe_65 : decode cX8_owe 65 = .ok (.iadd, 1) := by decide +kernel
theorem dX8_owe_66 : decode cX8_owe 66 = .ok (.aload_n 0, 1) := by decide +kernel
theorem dX8_owe_67 : decode cX8_owe 67 = .ok (.getfield 7, 3) := by decide +kernel
theorem dX8_owe_70 : decode cX8_owe 70 = .ok (.bipush 7, 2) := by decide +kernel
theorem dX8_owe_72 : decode cX8_owe 72 = .ok (.iaload, 1) := by decide +kernel
theorem dX8_owe_73 : decode cX8_owe 73 = .ok (.iastore, 1) := by decide +kernel
theorem dX8_owe_74 : decode cX8_owe 74 = .ok (.aload_n 0, 1) := by decide +kernel
theorem dX8_owe_75 : decode cX8_owe 75 = .ok (.getfield 7, 3) := by decide +kernel
theorem dX8_owe_78 : decode cX8_owe 78 = .ok (.bipush 17, 2) := by decide +kernel
theorem dX8_owe_80 : decode cX8_owe 80 = .ok (.dup2, 1) := by decide +kernel
theorem dX8_owe_81 : decode cX8_owe 81 = .ok (.iaload, 1) := by decide +kernel
theorem dX8_owe_82 : decode cX8_owe 82 = .ok (.iconst 1, 1) := by decide +kernel
theorem dX8_owe_83 : decode cX8_owe 83 = .ok (.iadd, 1) := by decide +kernel
theorem dX8_owe_84 : decode cX8_owe 84 = .ok (.iastore, 1) := by decide +kernel
theorem dX8_owe_85 : decode cX8_owe 85 = .ok (.return_, 1) := by decide +kernel
theorem dX8_drop_0 : decode cX8_drop 0 = .ok (.aload_n 0, 1) := by decide +kernel
theorem dX8_drop_1 : decode cX8_drop 1 = .ok (.getfield 7, 3) := by decide +kernel
theorem dX8_drop_4 : decode cX8_drop 4 = .ok (.bipush 17, 2) := by decide +kernel
theorem dX8_drop_6 : decode cX8_drop 6 = .ok (.dup2, 1) := by decide +kernel
theorem dX8_drop_7 : decode cX8_drop 7 = .ok (.iaload, 1) := by decide +kernel
theorem dX8_drop_8 : decode cX8_drop 8 = .ok (.iconst 1, 1) := by decide +kernel
theorem dX8_drop_9 : decode cX8_drop 9 = .ok (.isub, 1) := by decide +kernel
theorem dX8_drop_10 : decode cX8_drop 10 = .ok (.iastore, 1) := by decide +kernel
theorem dX8_drop_11 : decode cX8_drop 11 = .ok (.sipush 218, 3) := by decide +kernel
theorem dX8_drop_14 : decode cX8_drop 14 = .ok (.iconst 2, 1) := by decide +kernel
theorem dX8_drop_15 : decode cX8_drop 15 = .ok (.iload_n 1, 1) := by decide +kernel
theorem dX8_drop_16 : decode cX8_drop 16 = .ok (.imul, 1) := by decide +kernel
theorem dX8_drop_17 : decode cX8_drop 17 = .ok (.iadd, 1) := by decide +kernel
theorem dX8_drop_18 : decode cX8_drop 18 = .ok (.istore_n 2, 1) := by decide +kernel
theorem dX8_drop_19 : decode cX8_drop 19 = .ok (.iload_n 2, 1) := by decide +kernel
theorem dX8_drop_20 : decode cX8_drop 20 = .ok (.sipush 218, 3) := by decide +kernel
theorem dX8_drop_23 : decode cX8_drop 23 = .ok (.iconst 2, 1) := by decide +kernel
theorem dX8_drop_24 : decode cX8_drop 24 = .ok (.aload_n 0, 1) := by decide +kernel
theorem dX8_drop_25 : decode cX8_drop 25 = .ok (.getfield 7, 3) := by decide +kernel
theorem dX8_drop_28 : decode cX8_drop 28 = .ok (.bipush 17, 2) := by decide +kernel
theorem dX8_drop_30 : decode cX8_drop 30 = .ok (.iaload, 1) := by decide +kernel
theorem dX8_drop_31 : decode cX8_drop 31 = .ok (.imul, 1) := by decide +kernel
theorem dX8_drop_32 : decode cX8_drop 32 = .ok (.iadd, 1) := by decide +kernel
theorem dX8_drop_33 : decode cX8_drop 33 = .ok (.if_icmp .ge 23, 3) := by decide +kernel
theorem dX8_drop_36 : decode cX8_drop 36 = .ok (.aload_n 0, 1) := by decide +kernel
theorem dX8_drop_37 : decode cX8_drop 37 = .ok (.getfield 7, 3) := by decide +kernel
theorem dX8_drop_40 : decode cX8_drop 40 = .ok (.iload_n 2, 1) := by decide +kernel
theorem dX8_drop_41 : decode cX8_drop 41 = .ok (.aload_n 0, 1) := by decide +kernel
theorem dX8_drop_42 : decode cX8_drop 42 = .ok (.getfield 7, 3) := by decide +kernel
theorem dX8_drop_45 : decode cX8_drop 45 = .ok (.iload_n 2, 1) := by decide +kernel
theorem dX8_drop_46 : decode cX8_drop 46 = .ok (.iconst 2, 1) := by decide +kernel
theorem dX8_drop_47 : decode cX8_drop 47 = .ok (.iadd, 1) := by decide +kernel
theorem dX8_drop_48 : decode cX8_drop 48 = .ok (.iaload, 1) := by decide +kernel
theorem dX8_drop_49 : decode cX8_drop 49 = .ok (.iastore, 1) := by decide +kernel
theorem dX8_drop_50 : decode cX8_drop 50 = .ok (.iinc 2 1, 3) := by decide +kernel
theorem dX8_drop_53 : decode cX8_drop 53 = .ok (.goto (-34), 3) := by decide +kernel
theorem dX8_drop_56 : decode cX8_drop 56 = .ok (.return_, 1) := by decide +kernel
theorem dX8_owes_0 : decode cX8_owes 0 = .ok (.iconst 0, 1) := by decide +kernel
theorem dX8_owes_1 : decode cX8_owes 1 = .ok (.istore_n 2, 1) := by decide +kernel
theorem dX8_owes_2 : decode cX8_owes 2 = .ok (.iconst 0, 1) := by decide +kernel
theorem dX8_owes_3 : decode cX8_owes 3 = .ok (.istore_n 3, 1) := by decide +kernel
theorem dX8_owes_4 : decode cX8_owes 4 = .ok (.iload_n 3, 1) := by decide +kernel
theorem dX8_owes_5 : decode cX8_owes 5 = .ok (.aload_n 0, 1) := by decide +kernel
theorem dX8_owes_6 : decode cX8_owes 6 = .ok (.getfield 7, 3) := by decide +kernel
theorem dX8_owes_9 : decode cX8_owes 9 = .ok (.bipush 17, 2) := by decide +kernel
theorem dX8_owes_11 : decode cX8_owes 11 = .ok (.iaload, 1) := by decide +kernel
theorem dX8_owes_12 : decode cX8_owes 12 = .ok (.if_icmp .ge 33, 3) := by decide +kernel
theorem dX8_owes_15 : decode cX8_owes 15 = .ok (.iload_n 2, 1) := by decide +kernel
theorem dX8_owes_16 : decode cX8_owes 16 = .ok (.aload_n 0, 1) := by decide +kernel
theorem dX8_owes_17 : decode cX8_owes 17 = .ok (.getfield 7, 3) := by decide +kernel
theorem dX8_owes_20 : decode cX8_owes 20 = .ok (.sipush 218, 3) := by decide +kernel
theorem dX8_owes_23 : decode cX8_owes 23 = .ok (.iconst 2, 1) := by decide +kernel
theorem dX8_owes_24 : decode cX8_owes 24 = .ok (.iload_n 3, 1) := by decide +kernel
theorem dX8_owes_25 : decode cX8_owes 25 = .ok (.imul, 1) := by decide +kernel
theorem dX8_owes_26 : decode cX8_owes 26 = .ok (.iadd, 1) := by decide +kernel
theorem dX8_owes_27 : decode cX8_owes 27 = .ok (.iaload, 1) := by decide +kernel
theorem dX8_owes_28 : decode cX8_owes 28 = .ok (.iload_n 1, 1) := by decide +kernel
theorem dX8_owes_29 : decode cX8_owes 29 = .ok (.if_icmp .ne 7, 3) := by decide +kernel
theorem dX8_owes_32 : decode cX8_owes 32 = .ok (.iconst 1, 1) := by decide +kernel
theorem dX8_owes_33 : decode cX8_owes 33 = .ok (.goto 4, 3) := by decide +kernel
theorem dX8_owes_36 : decode cX8_owes 36 = .ok (.iconst 0, 1) := by decide +kernel
theorem dX8_owes_37 : decode cX8_owes 37 = .ok (.iadd, 1) := by decide +kernel
theorem dX8_owes_38 : decode cX8_owes 38 = .ok (.istore_n 2, 1) := by decide +kernel
theorem dX8_owes_39 : decode cX8_owes 39 = .ok (.iinc 3 1, 3) := by decide +kernel
theorem dX8_owes_42 : decode cX8_owes 42 = .ok (.goto (-38), 3) := by decide +kernel
theorem dX8_owes_45 : decode cX8_owes 45 = .ok (.iload_n 2, 1) := by decide +kernel
theorem dX8_owes_46 : decode cX8_owes 46 = .ok (.ireturn, 1) := by decide +kernel
theorem dX8_earliest_0 : decode cX8_earliest 0 = .ok (.iconst 0, 1) := by decide +kernel
theorem dX8_earliest_1 : decode cX8_earliest 1 = .ok (.istore_n 2, 1) := by decide +kernel
theorem dX8_earliest_2 : decode cX8_earliest 2 = .ok (.iload_n 2, 1) := by decide +kernel
theorem dX8_earliest_3 : decode cX8_earliest 3 = .ok (.aload_n 0, 1) := by decide +kernel
theorem dX8_earliest_4 : decode cX8_earliest 4 = .ok (.getfield 7, 3) := by decide +kernel
theorem dX8_earliest_7 : decode cX8_earliest 7 = .ok (.bipush 17, 2) := by decide +kernel
theorem dX8_earliest_9 : decode cX8_earliest 9 = .ok (.iaload, 1) := by decide +kernel
theorem dX8_earliest_10 : decode cX8_earliest 10 = .ok (.if_icmp .ge 27, 3) := by decide +kernel
theorem dX8_earliest_13 : decode cX8_earliest 13 = .ok (.aload_n 0, 1) := by decide +kernel
theorem dX8_earliest_14 : decode cX8_earliest 14 = .ok (.getfield 7, 3) := by decide +kernel
theorem dX8_earliest_17 : decode cX8_earliest 17 = .ok (.sipush 218, 3) := by decide +kernel
theorem dX8_earliest_20 : decode cX8_earliest 20 = .ok (.iconst 2, 1) := by decide +kernel
theorem dX8_earliest_21 : decode cX8_earliest 21 = .ok (.iload_n 2, 1) := by decide +kernel
theorem dX8_earliest_22 : decode cX8_earliest 22 = .ok (.imul, 1) := by decide +kernel
theorem dX8_earliest_23 : decode cX8_earliest 23 = .ok (.iadd, 1) := by decide +kernel
theorem dX8_earliest_24 : decode cX8_earliest 24 = .ok (.iaload, 1) := by decide +kernel
theorem dX8_earliest_25 : decode cX8_earliest 25 = .ok (.iload_n 1, 1) := by decide +kernel
theorem dX8_earliest_26 : decode cX8_earliest 26 = .ok (.if_icmp .ne 5, 3) := by decide +kernel
theorem dX8_earliest_29 : decode cX8_earliest 29 = .ok (.iload_n 2, 1) := by decide +kernel
theorem dX8_earliest_30 : decode cX8_earliest 30 = .ok (.ireturn, 1) := by decide +kernel
theorem dX8_earliest_31 : decode cX8_earliest 31 = .ok (.iinc 2 1, 3) := by decide +kernel
theorem dX8_earliest_34 : decode cX8_earliest 34 = .ok (.goto (-32), 3) := by decide +kernel
theorem dX8_earliest_37 : decode cX8_earliest 37 = .ok (.bipush (-6), 2) := by decide +kernel
theorem dX8_earliest_39 : decode cX8_earliest 39 = .ok (.ireturn, 1) := by decide +kernel
set_option maxRecDepth 20000 in
theorem ggX8_end_X8_setSeat : GoodIn wsX8_end wsX8_setSeat := goodIn_r _ [6, 1, 7, 8, 9, 10, 11, 12, 13, 14, 15, 16, 17, 18] (by decide +kernel) (by decide +kernel)
set_option maxRecDepth 20000 in
theorem gX8_end_X8_setSeat : GoodIn wsX8_end (wsV RX8 28 RX8 yX8_setSeat wsX8_setSeat) := goodIn_app (goodIn_of _ (by decide +kernel)) ggX8_end_X8_setSeat
theorem dX8_end_0 : decode cX8_end 0 = .ok (.aload_n 0, 1) := by decide +kernel
theorem dX8_end_1 : decode cX8_end 1 = .ok (.getfield 7, 3) := by decide +kernel
theorem dX8_end_4 : decode cX8_end 4 = .ok (.bipush 6, 2) := by decide +kernel
theorem dX8_end_6 : decode cX8_end 6 = .ok (.iaload, 1) := by decide +kernel
theorem dX8_end_7 : decode cX8_end 7 = .ok (.istore_n 2, 1) := by decide +kernel
theorem dX8_end_8 : decode cX8_end 8 = .ok (.aload_n 0, 1) := by decide +kernel
theorem dX8_end_9 : decode cX8_end 9 = .ok (.getfield 7, 3) := by decide +kernel
theorem dX8_end_12 : decode cX8_end 12 = .ok (.bipush 6, 2) := by decide +kernel
theorem dX8_end_14 : decode cX8_end 14 = .ok (.iconst 0, 1) := by decide +kernel
theorem dX8_end_15 : decode cX8_end 15 = .ok (.iastore, 1) := by decide +kernel
theorem dX8_end_16 : decode cX8_end 16 = .ok (.aload_n 0, 1) := by decide +kernel
theorem dX8_end_17 : decode cX8_end 17 = .ok (.getfield 7, 3) := by decide +kernel
theorem dX8_end_20 : decode cX8_end 20 = .ok (.bipush 13, 2) := by decide +kernel
theorem dX8_end_22 : decode cX8_end 22 = .ok (.iconst 1, 1) := by decide +kernel
theorem dX8_end_23 : decode cX8_end 23 = .ok (.iastore, 1) := by decide +kernel
theorem dX8_end_24 : decode cX8_end 24 = .ok (.aload_n 0, 1) := by decide +kernel
theorem dX8_end_25 : decode cX8_end 25 = .ok (.getfield 7, 3) := by decide +kernel
theorem dX8_end_28 : decode cX8_end 28 = .ok (.bipush 14, 2) := by decide +kernel
theorem dX8_end_30 : decode cX8_end 30 = .ok (.aload_n 0, 1) := by decide +kernel
theorem dX8_end_31 : decode cX8_end 31 = .ok (.getfield 7, 3) := by decide +kernel
theorem dX8_end_34 : decode cX8_end 34 = .ok (.bipush 7, 2) := by decide +kernel
theorem dX8_end_36 : decode cX8_end 36 = .ok (.iaload, 1) := by decide +kernel
theorem dX8_end_37 : decode cX8_end 37 = .ok (.iastore, 1) := by decide +kernel
theorem dX8_end_38 : decode cX8_end 38 = .ok (.aload_n 0, 1) := by decide +kernel
theorem dX8_end_39 : decode cX8_end 39 = .ok (.getfield 7, 3) := by decide +kernel
theorem dX8_end_42 : decode cX8_end 42 = .ok (.bipush 15, 2) := by decide +kernel
theorem dX8_end_44 : decode cX8_end 44 = .ok (.iload_n 1, 1) := by decide +kernel
theorem dX8_end_45 : decode cX8_end 45 = .ok (.iastore, 1) := by decide +kernel
theorem dX8_end_46 : decode cX8_end 46 = .ok (.aload_n 0, 1) := by decide +kernel
theorem dX8_end_47 : decode cX8_end 47 = .ok (.getfield 7, 3) := by decide +kernel
theorem dX8_end_50 : decode cX8_end 50 = .ok (.bipush 16, 2) := by decide +kernel
theorem dX8_end_52 : decode cX8_end 52 = .ok (.iconst 0, 1) := by decide +kernel
theorem dX8_end_53 : decode cX8_end 53 = .ok (.iastore, 1) := by decide +kernel
theorem dX8_end_54 : decode cX8_end 54 = .ok (.aload_n 0, 1) := by decide +kernel
theorem dX8_end_55 : decode cX8_end 55 = .ok (.getfield 7, 3) := by decide +kernel
theorem dX8_end_58 : decode cX8_end 58 = .ok (.sipush 200, 3) := by decide +kernel
theorem dX8_end_61 : decode cX8_end 61 = .ok (.iconst 3, 1) := by decide +kernel
theorem dX8_end_62 : decode cX8_end 62 = .ok (.iload_n 1, 1) := by decide +kernel
theorem dX8_end_63 : decode cX8_end 63 = .ok (.imul, 1) := by decide +kernel
theorem dX8_end_64 : decode cX8_end 64 = .ok (.iadd, 1) := by decide +kernel
theorem dX8_end_65 : decode cX8_end 65 = .ok (.iconst 2, 1) := by decide +kernel
theorem dX8_end_66 : decode cX8_end 66 = .ok (.iadd, 1) := by decide +kernel
theorem dX8_end_67 : decode cX8_end 67 = .ok (.dup2, 1) := by decide +kernel
theorem dX8_end_68 : decode cX8_end 68 = .ok (.iaload, 1) := by decide +kernel
theorem dX8_end_69 : decode cX8_end 69 = .ok (.iconst 1, 1) := by decide +kernel
theorem dX8_end_70 : decode cX8_end 70 = .ok (.iadd, 1) := by decide +kernel
theorem dX8_end_71 : decode cX8_end 71 = .ok (.iastore, 1) := by decide +kernel
theorem dX8_end_72 : decode cX8_end 72 = .ok (.iconst 0, 1) := by decide +kernel
theorem dX8_end_73 : decode cX8_end 73 = .ok (.istore_n 3, 1) := by decide +kernel
theorem dX8_end_74 : decode cX8_end 74 = .ok (.iload_n 3, 1) := by decide +kernel
theorem dX8_end_75 : decode cX8_end 75 = .ok (.bipush 30, 2) := by decide +kernel
theorem dX8_end_77 : decode cX8_end 77 = .ok (.if_icmp .ge 16, 3) := by decide +kernel
theorem dX8_end_80 : decode cX8_end 80 = .ok (.aload_n 0, 1) := by decide +kernel
theorem dX8_end_81 : decode cX8_end 81 = .ok (.iload_n 3, 1) := by decide +kernel
theorem dX8_end_82 : decode cX8_end 82 = .ok (.iconst 4, 1) := by decide +kernel
theorem dX8_end_83 : decode cX8_end 83 = .ok (.iconst 0, 1) := by decide +kernel
theorem dX8_end_84 : decode cX8_end 84 = .ok (.invokevirtual 28, 3) := by decide +kernel
theorem dX8_end_87 : decode cX8_end 87 = .ok (.iinc 3 1, 3) := by decide +kernel
theorem dX8_end_90 : decode cX8_end 90 = .ok (.goto (-16), 3) := by decide +kernel
theorem dX8_end_93 : decode cX8_end 93 = .ok (.iload_n 2, 1) := by decide +kernel
theorem dX8_end_94 : decode cX8_end 94 = .ok (.ireturn, 1) := by decide +kernel
set_option maxRecDepth 20000 in
theorem ggX8_doEnds_X8_isPerformer : GoodIn wsX8_doEnds wsX8_isPerformer := goodIn_r _ [4, 5, 6, 3, 7] (by decide +kernel) (by decide +kernel)
set_option maxRecDepth 20000 in
theorem gX8_doEnds_X8_isPerformer : GoodIn wsX8_doEnds (va_wsS RX8 54 yX8_isPerformer wsX8_isPerformer) := goodIn_app (goodIn_of _ (by decide +kernel)) ggX8_doEnds_X8_isPerformer
set_option maxRecDepth 20000 in
theorem ggX8_doEnds_X8_end : GoodIn wsX8_doEnds wsX8_end := goodIn_r _ [11, 12, 13, 14, 15, 3, 16, 17, 18, 19, 20, 21, 22, 23, 24, 25, 26, 27, 28] (by decide +kernel) (by decide +kernel)
set_option maxRecDepth 20000 in
theorem gX8_doEnds_X8_end : GoodIn wsX8_doEnds (wsV RX8 57 RX8 yX8_end wsX8_end) := goodIn_app (goodIn_of _ (by decide +kernel)) ggX8_doEnds_X8_end
theorem dX8_doEnds_0 : decode cX8_doEnds 0 = .ok (.iload_n 1, 1) := by decide +kernel
theorem dX8_doEnds_1 : decode cX8_doEnds 1 = .ok (.invokestatic 54, 3) := by decide +kernel
theorem dX8_doEnds_4 : decode cX8_doEnds 4 = .ok (.ifCond .eq 11, 3) := by decide +kernel
theorem dX8_doEnds_7 : decode cX8_doEnds 7 = .ok (.aload_n 0, 1) := by decide +kernel
theorem dX8_doEnds_8 : decode cX8_doEnds 8 = .ok (.iload_n 1, 1) := by decide +kernel
theorem dX8_doEnds_9 : decode cX8_doEnds 9 = .ok (.invokevirtual 57, 3) := by decide +kernel
theorem dX8_doEnds_12 : decode cX8_doEnds 12 = .ok (.goto 4, 3) := by decide +kernel
theorem dX8_doEnds_15 : decode cX8_doEnds 15 = .ok (.iconst (-1), 1) := by decide +kernel
theorem dX8_doEnds_16 : decode cX8_doEnds 16 = .ok (.ireturn, 1) := by decide +kernel
set_option maxRecDepth 20000 in
theorem ggX8_countClap_X8_seat : GoodIn wsX8_countClap wsX8_seat := goodIn_r _ [6, 1, 11, 12, 13, 14, 15, 16, 17, 18, 19, 20, 21, 22] (by decide +kernel) (by decide +kernel)
set_option maxRecDepth 20000 in
theorem gX8_countClap_X8_seat : GoodIn wsX8_countClap (wsV RX8 61 RX8 yX8_seat wsX8_seat) := goodIn_app (goodIn_of _ (by decide +kernel)) ggX8_countClap_X8_seat
set_option maxRecDepth 20000 in
theorem ggX8_countClap_X8_setSeat : GoodIn wsX8_countClap wsX8_setSeat := goodIn_r _ [10, 1, 11, 12, 13, 14, 15, 16, 17, 18, 19, 20, 21, 22] (by decide +kernel) (by decide +kernel)
set_option maxRecDepth 20000 in
theorem gX8_countClap_X8_setSeat : GoodIn wsX8_countClap (wsV RX8 28 RX8 yX8_setSeat wsX8_setSeat) := goodIn_app (goodIn_of _ (by decide +kernel)) ggX8_countClap_X8_setSeat
theorem dX8_countClap_0 : decode cX8_countClap 0 = .ok (.aload_n 0, 1) := by decide +kernel
theorem dX8_countClap_1 : decode cX8_countClap 1 = .ok (.iload_n 1, 1) := by decide +kernel
theorem dX8_countClap_2 : decode cX8_countClap 2 = .ok (.iconst 3, 1) := by decide +kernel
theorem dX8_countClap_3 : decode cX8_countClap 3 = .ok (.invokevirtual 61, 3) := by decide +kernel
theorem dX8_countClap_6 : decode cX8_countClap 6 = .ok (.ifCond .ne 31, 3) := by decide +kernel
theorem dX8_countClap_9 : decode cX8_countClap 9 = .ok (.aload_n 0, 1) := by decide +kernel
theorem dX8_countClap_10 : decode cX8_countClap 10 = .ok (.getfield 7, 3) := by decide +kernel
theorem dX8_countClap_13 : decode cX8_countClap 13 = .ok (.sipush 234, 3) := by decide +kernel
theorem dX8_countClap_16 : decode cX8_countClap 16 = .ok (.aload_n 0, 1) := by decide +kernel
theorem dX8_countClap_17 : decode cX8_countClap 17 = .ok (.getfield 7, 3) := by decide +kernel
theorem dX8_countClap_20 : decode cX8_countClap 20 = .ok (.bipush 18, 2) := by decide +kernel
theorem dX8_countClap_22 : decode cX8_countClap 22 = .ok (.iaload, 1) := by decide +kernel
theorem dX8_countClap_23 : decode cX8_countClap 23 = .ok (.iadd, 1) := by decide +kernel
theorem dX8_countClap_24 : decode cX8_countClap 24 = .ok (.iload_n 1, 1) := by decide +kernel
theorem dX8_countClap_25 : decode cX8_countClap 25 = .ok (.iastore, 1) := by decide +kernel
theorem dX8_countClap_26 : decode cX8_countClap 26 = .ok (.aload_n 0, 1) := by decide +kernel
theorem dX8_countClap_27 : decode cX8_countClap 27 = .ok (.getfield 7, 3) := by decide +kernel
theorem dX8_countClap_30 : decode cX8_countClap 30 = .ok (.bipush 18, 2) := by decide +kernel
theorem dX8_countClap_32 : decode cX8_countClap 32 = .ok (.dup2, 1) := by decide +kernel
theorem dX8_countClap_33 : decode cX8_countClap 33 = .ok (.iaload, 1) := by decide +kernel
theorem dX8_countClap_34 : decode cX8_countClap 34 = .ok (.iconst 1, 1) := by decide +kernel
theorem dX8_countClap_35 : decode cX8_countClap 35 = .ok (.iadd, 1) := by decide +kernel
theorem dX8_countClap_36 : decode cX8_countClap 36 = .ok (.iastore, 1) := by decide +kernel
theorem dX8_countClap_37 : decode cX8_countClap 37 = .ok (.aload_n 0, 1) := by decide +kernel
theorem dX8_countClap_38 : decode cX8_countClap 38 = .ok (.iload_n 1, 1) := by decide +kernel
theorem dX8_countClap_39 : decode cX8_countClap 39 = .ok (.iconst 4, 1) := by decide +kernel
theorem dX8_countClap_40 : decode cX8_countClap 40 = .ok (.invokevirtual 61, 3) := by decide +kernel
theorem dX8_countClap_43 : decode cX8_countClap 43 = .ok (.ifCond .ne 41, 3) := by decide +kernel
theorem dX8_countClap_46 : decode cX8_countClap 46 = .ok (.aload_n 0, 1) := by decide +kernel
theorem dX8_countClap_47 : decode cX8_countClap 47 = .ok (.getfield 7, 3) := by decide +kernel
theorem dX8_countClap_50 : decode cX8_countClap 50 = .ok (.bipush 7, 2) := by decide +kernel
theorem dX8_countClap_52 : decode cX8_countClap 52 = .ok (.iaload, 1) := by decide +kernel
theorem dX8_countClap_53 : decode cX8_countClap 53 = .ok (.aload_n 0, 1) := by decide +kernel
theorem dX8_countClap_54 : decode cX8_countClap 54 = .ok (.getfield 7, 3) := by decide +kernel
theorem dX8_countClap_57 : decode cX8_countClap 57 = .ok (.bipush 14, 2) := by decide +kernel
theorem dX8_countClap_59 : decode cX8_countClap 59 = .ok (.iaload, 1) := by decide +kernel
theorem dX8_countClap_60 : decode cX8_countClap 60 = .ok (.isub, 1) := by decide +kernel
theorem dX8_countClap_61 : decode cX8_countClap 61 = .ok (.aload_n 0, 1) := by decide +kernel
theorem dX8_countClap_62 : decode cX8_countClap 62 = .ok (.getfield 7, 3) := by decide +kernel
theorem dX8_countClap_65 : decode cX8_countClap 65 = .ok (.iconst 3, 1) := by decide +kernel
theorem dX8_countClap_66 : decode cX8_countClap 66 = .ok (.iaload, 1) := by decide +kernel
theorem dX8_countClap_67 : decode cX8_countClap 67 = .ok (.if_icmp .gt 17, 3) := by decide +kernel
theorem dX8_countClap_70 : decode cX8_countClap 70 = .ok (.aload_n 0, 1) := by decide +kernel
theorem dX8_countClap_71 : decode cX8_countClap 71 = .ok (.iload_n 1, 1) := by decide +kernel
theorem dX8_countClap_72 : decode cX8_countClap 72 = .ok (.iconst 2, 1) := by decide +kernel
theorem dX8_countClap_73 : decode cX8_countClap 73 = .ok (.aload_n 0, 1) := by decide +kernel
theorem dX8_countClap_74 : decode cX8_countClap 74 = .ok (.iload_n 1, 1) := by decide +kernel
theorem dX8_countClap_75 : decode cX8_countClap 75 = .ok (.iconst 2, 1) := by decide +kernel
theorem dX8_countClap_76 : decode cX8_countClap 76 = .ok (.invokevirtual 61, 3) := by decide +kernel
theorem dX8_countClap_79 : decode cX8_countClap 79 = .ok (.iconst 1, 1) := by decide +kernel
theorem dX8_countClap_80 : decode cX8_countClap 80 = .ok (.iadd, 1) := by decide +kernel
theorem dX8_countClap_81 : decode cX8_countClap 81 = .ok (.invokevirtual 28, 3) := by decide +kernel
theorem dX8_countClap_84 : decode cX8_countClap 84 = .ok (.aload_n 0, 1) := by decide +kernel
theorem dX8_countClap_85 : decode cX8_countClap 85 = .ok (.iload_n 1, 1) := by decide +kernel
theorem dX8_countClap_86 : decode cX8_countClap 86 = .ok (.iconst 3, 1) := by decide +kernel
theorem dX8_countClap_87 : decode cX8_countClap 87 = .ok (.aload_n 0, 1) := by decide +kernel
theorem dX8_countClap_88 : decode cX8_countClap 88 = .ok (.iload_n 1, 1) := by decide +kernel
theorem dX8_countClap_89 : decode cX8_countClap 89 = .ok (.iconst 3, 1) := by decide +kernel
theorem dX8_countClap_90 : decode cX8_countClap 90 = .ok (.invokevirtual 61, 3) := by decide +kernel
theorem dX8_countClap_93 : decode cX8_countClap 93 = .ok (.iconst 1, 1) := by decide +kernel
theorem dX8_countClap_94 : decode cX8_countClap 94 = .ok (.iadd, 1) := by decide +kernel
theorem dX8_countClap_95 : decode cX8_countClap 95 = .ok (.invokevirtual 28, 3) := by decide +kernel
theorem dX8_countClap_98 : decode cX8_countClap 98 = .ok (.aload_n 0, 1) := by decide +kernel
theorem dX8_countClap_99 : decode cX8_countClap 99 = .ok (.iload_n 1, 1) := by decide +kernel
theorem dX8_countClap_100 : decode cX8_countClap 100 = .ok (.iconst 4, 1) := by decide +kernel
theorem dX8_countClap_101 : decode cX8_countClap 101 = .ok (.iconst 1, 1) := by decide +kernel
theorem dX8_countClap_102 : decode cX8_countClap 102 = .ok (.invokevirtual 28, 3) := by decide +kernel
theorem dX8_countClap_105 : decode cX8_countClap 105 = .ok (.aload_n 0, 1) := by decide +kernel
theorem dX8_countClap_106 : decode cX8_countClap 106 = .ok (.iload_n 1, 1) := by decide +kernel
theorem dX8_countClap_107 : decode cX8_countClap 107 = .ok (.iconst 5, 1) := by decide +kernel
theorem dX8_countClap_108 : decode cX8_countClap 108 = .ok (.aload_n 0, 1) := by decide +kernel
theorem dX8_countClap_109 : decode cX8_countClap 109 = .ok (.iload_n 1, 1) := by decide +kernel
theorem dX8_countClap_110 : decode cX8_countClap 110 = .ok (.iconst 5, 1) := by decide +kernel
theorem dX8_countClap_111 : decode cX8_countClap 111 = .ok (.invokevirtual 61, 3) := by decide +kernel
theorem dX8_countClap_114 : decode cX8_countClap 114 = .ok (.iconst 1, 1) := by decide +kernel
theorem dX8_countClap_115 : decode cX8_countClap 115 = .ok (.iadd, 1) := by decide +kernel
theorem dX8_countClap_116 : decode cX8_countClap 116 = .ok (.invokevirtual 28, 3) := by decide +kernel
theorem dX8_countClap_119 : decode cX8_countClap 119 = .ok (.aload_n 0, 1) := by decide +kernel
theorem dX8_countClap_120 : decode cX8_countClap 120 = .ok (.getfield 7, 3) := by decide +kernel
theorem dX8_countClap_123 : decode cX8_countClap 123 = .ok (.bipush 9, 2) := by decide +kernel
theorem dX8_countClap_125 : decode cX8_countClap 125 = .ok (.dup2, 1) := by decide +kernel
theorem dX8_countClap_126 : decode cX8_countClap 126 = .ok (.iaload, 1) := by decide +kernel
theorem dX8_countClap_127 : decode cX8_countClap 127 = .ok (.iconst 1, 1) := by decide +kernel
theorem dX8_countClap_128 : decode cX8_countClap 128 = .ok (.iadd, 1) := by decide +kernel
theorem dX8_countClap_129 : decode cX8_countClap 129 = .ok (.iastore, 1) := by decide +kernel
theorem dX8_countClap_130 : decode cX8_countClap 130 = .ok (.return_, 1) := by decide +kernel
set_option maxRecDepth 20000 in
theorem ggX8_doClap_X8_isSeat : GoodIn wsX8_doClap wsX8_isSeat := goodIn_r _ [5, 6, 7, 4, 8] (by decide +kernel) (by decide +kernel)
set_option maxRecDepth 20000 in
theorem gX8_doClap_X8_isSeat : GoodIn wsX8_doClap (va_wsS RX8 65 yX8_isSeat wsX8_isSeat) := goodIn_app (goodIn_of _ (by decide +kernel)) ggX8_doClap_X8_isSeat
set_option maxRecDepth 20000 in
theorem ggX8_doClap_X8_seat : GoodIn wsX8_doClap wsX8_seat := goodIn_r _ [12, 1, 29, 30, 31, 32, 33, 34, 35, 36, 37, 38, 39, 40] (by decide +kernel) (by decide +kernel)
set_option maxRecDepth 20000 in
theorem gX8_doClap_X8_seat : GoodIn wsX8_doClap (wsV RX8 61 RX8 yX8_seat wsX8_seat) := goodIn_app (goodIn_of _ (by decide +kernel)) ggX8_doClap_X8_seat
set_option maxRecDepth 20000 in
theorem ggX8_doClap_X8_countClap : GoodIn wsX8_doClap wsX8_countClap := goodIn_r _ [16, 1, 9, 10, 11, 4, 12, 17, 18, 19, 20, 29, 30, 31, 32, 33, 34, 35, 36, 37, 38, 39, 40] (by decide +kernel) (by decide +kernel)
set_option maxRecDepth 20000 in
theorem gX8_doClap_X8_countClap : GoodIn wsX8_doClap (wsV RX8 68 RX8 yX8_countClap wsX8_countClap) := goodIn_app (goodIn_of _ (by decide +kernel)) ggX8_doClap_X8_countClap
set_option maxRecDepth 20000 in
theorem ggX8_doClap_X8_owe : GoodIn wsX8_doClap wsX8_owe := goodIn_r _ [24, 1, 25, 26, 27, 4, 28, 29, 30, 31, 32, 33, 34, 35, 36, 37, 38, 39, 40] (by decide +kernel) (by decide +kernel)
set_option maxRecDepth 20000 in
theorem gX8_doClap_X8_owe : GoodIn wsX8_doClap (wsV RX8 71 RX8 yX8_owe wsX8_owe) := goodIn_app (goodIn_of _ (by decide +kernel)) ggX8_doClap_X8_owe
theorem dX8_doClap_0 : decode cX8_doClap 0 = .ok (.iload_n 1, 1) := by decide +kernel
theorem dX8_doClap_1 : decode cX8_doClap 1 = .ok (.invokestatic 65, 3) := by decide +kernel
theorem dX8_doClap_4 : decode cX8_doClap 4 = .ok (.ifCond .ne 5, 3) := by decide +kernel
theorem dX8_doClap_7 : decode cX8_doClap 7 = .ok (.iconst (-1), 1) := by decide +kernel
theorem dX8_doClap_8 : decode cX8_doClap 8 = .ok (.ireturn, 1) := by decide +kernel
theorem dX8_doClap_9 : decode cX8_doClap 9 = .ok (.aload_n 0, 1) := by decide +kernel
theorem dX8_doClap_10 : decode cX8_doClap 10 = .ok (.getfield 7, 3) := by decide +kernel
theorem dX8_doClap_13 : decode cX8_doClap 13 = .ok (.bipush 13, 2) := by decide +kernel
theorem dX8_doClap_15 : decode cX8_doClap 15 = .ok (.iaload, 1) := by decide +kernel
theorem dX8_doClap_16 : decode cX8_doClap 16 = .ok (.ifCond .ne 6, 3) := by decide +kernel
theorem dX8_doClap_19 : decode cX8_doClap 19 = .ok (.bipush (-5), 2) := by decide +kernel
theorem dX8_doClap_21 : decode cX8_doClap 21 = .ok (.ireturn, 1) := by decide +kernel
theorem dX8_doClap_22 : decode cX8_doClap 22 = .ok (.aload_n 0, 1) := by decide +kernel
theorem dX8_doClap_23 : decode cX8_doClap 23 = .ok (.getfield 7, 3) := by decide +kernel
theorem dX8_doClap_26 : decode cX8_doClap 26 = .ok (.bipush 6, 2) := by decide +kernel
theorem dX8_doClap_28 : decode cX8_doClap 28 = .ok (.iaload, 1) := by decide +kernel
theorem dX8_doClap_29 : decode cX8_doClap 29 = .ok (.bipush 10, 2) := by decide +kernel
theorem dX8_doClap_31 : decode cX8_doClap 31 = .ok (.aload_n 0, 1) := by decide +kernel
theorem dX8_doClap_32 : decode cX8_doClap 32 = .ok (.iload_n 1, 1) := by decide +kernel
theorem dX8_doClap_33 : decode cX8_doClap 33 = .ok (.iconst 0, 1) := by decide +kernel
theorem dX8_doClap_34 : decode cX8_doClap 34 = .ok (.invokevirtual 61, 3) := by decide +kernel
theorem dX8_doClap_37 : decode cX8_doClap 37 = .ok (.imul, 1) := by decide +kernel
theorem dX8_doClap_38 : decode cX8_doClap 38 = .ok (.iadd, 1) := by decide +kernel
theorem dX8_doClap_39 : decode cX8_doClap 39 = .ok (.istore_n 2, 1) := by decide +kernel
theorem dX8_doClap_40 : decode cX8_doClap 40 = .ok (.aload_n 0, 1) := by decide +kernel
theorem dX8_doClap_41 : decode cX8_doClap 41 = .ok (.getfield 7, 3) := by decide +kernel
theorem dX8_doClap_44 : decode cX8_doClap 44 = .ok (.bipush 6, 2) := by decide +kernel
theorem dX8_doClap_46 : decode cX8_doClap 46 = .ok (.iload_n 2, 1) := by decide +kernel
theorem dX8_doClap_47 : decode cX8_doClap 47 = .ok (.sipush 9999, 3) := by decide +kernel
theorem dX8_doClap_50 : decode cX8_doClap 50 = .ok (.if_icmp .le 9, 3) := by decide +kernel
theorem dX8_doClap_53 : decode cX8_doClap 53 = .ok (.sipush 9999, 3) := by decide +kernel
theorem dX8_doClap_56 : decode cX8_doClap 56 = .ok (.goto 4, 3) := by decide +kernel
theorem dX8_doClap_59 : decode cX8_doClap 59 = .ok (.iload_n 2, 1) := by decide +kernel
theorem dX8_doClap_60 : decode cX8_doClap 60 = .ok (.iastore, 1) := by decide +kernel
theorem dX8_doClap_61 : decode cX8_doClap 61 = .ok (.aload_n 0, 1) := by decide +kernel
theorem dX8_doClap_62 : decode cX8_doClap 62 = .ok (.iload_n 1, 1) := by decide +kernel
theorem dX8_doClap_63 : decode cX8_doClap 63 = .ok (.invokevirtual 68, 3) := by decide +kernel
theorem dX8_doClap_66 : decode cX8_doClap 66 = .ok (.aload_n 0, 1) := by decide +kernel
theorem dX8_doClap_67 : decode cX8_doClap 67 = .ok (.getfield 7, 3) := by decide +kernel
theorem dX8_doClap_70 : decode cX8_doClap 70 = .ok (.bipush 6, 2) := by decide +kernel
theorem dX8_doClap_72 : decode cX8_doClap 72 = .ok (.iaload, 1) := by decide +kernel
theorem dX8_doClap_73 : decode cX8_doClap 73 = .ok (.aload_n 0, 1) := by decide +kernel
theorem dX8_doClap_74 : decode cX8_doClap 74 = .ok (.getfield 7, 3) := by decide +kernel
theorem dX8_doClap_77 : decode cX8_doClap 77 = .ok (.iconst 1, 1) := by decide +kernel
theorem dX8_doClap_78 : decode cX8_doClap 78 = .ok (.iaload, 1) := by decide +kernel
theorem dX8_doClap_79 : decode cX8_doClap 79 = .ok (.if_icmp .lt 24, 3) := by decide +kernel
theorem dX8_doClap_82 : decode cX8_doClap 82 = .ok (.aload_n 0, 1) := by decide +kernel
theorem dX8_doClap_83 : decode cX8_doClap 83 = .ok (.getfield 7, 3) := by decide +kernel
theorem dX8_doClap_86 : decode cX8_doClap 86 = .ok (.bipush 16, 2) := by decide +kernel
theorem dX8_doClap_88 : decode cX8_doClap 88 = .ok (.iaload, 1) := by decide +kernel
theorem dX8_doClap_89 : decode cX8_doClap 89 = .ok (.ifCond .ne 14, 3) := by decide +kernel
theorem dX8_doClap_92 : decode cX8_doClap 92 = .ok (.aload_n 0, 1) := by decide +kernel
theorem dX8_doClap_93 : decode cX8_doClap 93 = .ok (.aload_n 0, 1) := by decide +kernel
theorem dX8_doClap_94 : decode cX8_doClap 94 = .ok (.getfield 7, 3) := by decide +kernel
theorem dX8_doClap_97 : decode cX8_doClap 97 = .ok (.bipush 15, 2) := by decide +kernel
theorem dX8_doClap_99 : decode cX8_doClap 99 = .ok (.iaload, 1) := by decide +kernel
theorem dX8_doClap_100 : decode cX8_doClap 100 = .ok (.invokevirtual 71, 3) := by decide +kernel
theorem dX8_doClap_103 : decode cX8_doClap 103 = .ok (.aload_n 0, 1) := by decide +kernel
theorem dX8_doClap_104 : decode cX8_doClap 104 = .ok (.getfield 7, 3) := by decide +kernel
theorem dX8_doClap_107 : decode cX8_doClap 107 = .ok (.bipush 6, 2) := by decide +kernel
theorem dX8_doClap_109 : decode cX8_doClap 109 = .ok (.iaload, 1) := by decide +kernel
theorem dX8_doClap_110 : decode cX8_doClap 110 = .ok (.ireturn, 1) := by decide +kernel
theorem dX8_decayed_0 : decode cX8_decayed 0 = .ok (.iload_n 1, 1) := by decide +kernel
theorem dX8_decayed_1 : decode cX8_decayed 1 = .ok (.aload_n 0, 1) := by decide +kernel
theorem dX8_decayed_2 : decode cX8_decayed 2 = .ok (.getfield 7, 3) := by decide +kernel
theorem dX8_decayed_5 : decode cX8_decayed 5 = .ok (.iconst 0, 1) := by decide +kernel
theorem dX8_decayed_6 : decode cX8_decayed 6 = .ok (.iaload, 1) := by decide +kernel
theorem dX8_decayed_7 : decode cX8_decayed 7 = .ok (.imul, 1) := by decide +kernel
theorem dX8_decayed_8 : decode cX8_decayed 8 = .ok (.bipush 100, 2) := by decide +kernel
theorem dX8_decayed_10 : decode cX8_decayed 10 = .ok (.idiv, 1) := by decide +kernel
theorem dX8_decayed_11 : decode cX8_decayed 11 = .ok (.istore_n 2, 1) := by decide +kernel
theorem dX8_decayed_12 : decode cX8_decayed 12 = .ok (.iload_n 1, 1) := by decide +kernel
theorem dX8_decayed_13 : decode cX8_decayed 13 = .ok (.ifCond .ne 7, 3) := by decide +kernel
theorem dX8_decayed_16 : decode cX8_decayed 16 = .ok (.iconst 0, 1) := by decide +kernel
theorem dX8_decayed_17 : decode cX8_decayed 17 = .ok (.goto 15, 3) := by decide +kernel
theorem dX8_decayed_20 : decode cX8_decayed 20 = .ok (.iload_n 1, 1) := by decide +kernel
theorem dX8_decayed_21 : decode cX8_decayed 21 = .ok (.iload_n 2, 1) := by decide +kernel
theorem dX8_decayed_22 : decode cX8_decayed 22 = .ok (.iconst 1, 1) := by decide +kernel
theorem dX8_decayed_23 : decode cX8_decayed 23 = .ok (.if_icmp .ge 7, 3) := by decide +kernel
theorem dX8_decayed_26 : decode cX8_decayed 26 = .ok (.iconst 1, 1) := by decide +kernel
theorem dX8_decayed_27 : decode cX8_decayed 27 = .ok (.goto 4, 3) := by decide +kernel
theorem dX8_decayed_30 : decode cX8_decayed 30 = .ok (.iload_n 2, 1) := by decide +kernel
theorem dX8_decayed_31 : decode cX8_decayed 31 = .ok (.isub, 1) := by decide +kernel
theorem dX8_decayed_32 : decode cX8_decayed 32 = .ok (.ireturn, 1) := by decide +kernel
set_option maxRecDepth 20000 in
theorem ggX8_passSecond_X8_decayed : GoodIn wsX8_passSecond wsX8_decayed := goodIn_r _ [6, 1, 19, 20, 21, 22, 23, 24, 25, 26, 27, 28, 29, 30] (by decide +kernel) (by decide +kernel)
set_option maxRecDepth 20000 in
theorem gX8_passSecond_X8_decayed : GoodIn wsX8_passSecond (wsV RX8 74 RX8 yX8_decayed wsX8_decayed) := goodIn_app (goodIn_of _ (by decide +kernel)) ggX8_passSecond_X8_decayed
set_option maxRecDepth 20000 in
theorem ggX8_passSecond_X8_owedFor : GoodIn wsX8_passSecond wsX8_owedFor := goodIn_r _ [10, 1, 19, 20, 21, 22, 23, 24, 25, 26, 27, 28, 29, 30] (by decide +kernel) (by decide +kernel)
set_option maxRecDepth 20000 in
theorem gX8_passSecond_X8_owedFor : GoodIn wsX8_passSecond (wsV RX8 77 RX8 yX8_owedFor wsX8_owedFor) := goodIn_app (goodIn_of _ (by decide +kernel)) ggX8_passSecond_X8_owedFor
set_option maxRecDepth 20000 in
theorem ggX8_passSecond_X8_countLapse : GoodIn wsX8_passSecond wsX8_countLapse := goodIn_r _ [14, 1, 19, 20, 21, 22, 23, 24, 25, 26, 27, 28, 29, 30] (by decide +kernel) (by decide +kernel)
set_option maxRecDepth 20000 in
theorem gX8_passSecond_X8_countLapse : GoodIn wsX8_passSecond (wsV RX8 50 RX8 yX8_countLapse wsX8_countLapse) := goodIn_app (goodIn_of _ (by decide +kernel)) ggX8_passSecond_X8_countLapse
set_option maxRecDepth 20000 in
theorem ggX8_passSecond_X8_drop : GoodIn wsX8_passSecond wsX8_drop := goodIn_r _ [18, 1, 19, 20, 21, 22, 23, 24, 25, 26, 27, 28, 29, 30] (by decide +kernel) (by decide +kernel)
set_option maxRecDepth 20000 in
theorem gX8_passSecond_X8_drop : GoodIn wsX8_passSecond (wsV RX8 80 RX8 yX8_drop wsX8_drop) := goodIn_app (goodIn_of _ (by decide +kernel)) ggX8_passSecond_X8_drop
theorem dX8_passSecond_0 : decode cX8_passSecond 0 = .ok (.aload_n 0, 1) := by decide +kernel
theorem dX8_passSecond_1 : decode cX8_passSecond 1 = .ok (.getfield 7, 3) := by decide +kernel
theorem dX8_passSecond_4 : decode cX8_passSecond 4 = .ok (.bipush 6, 2) := by decide +kernel
theorem dX8_passSecond_6 : decode cX8_passSecond 6 = .ok (.aload_n 0, 1) := by decide +kernel
theorem dX8_passSecond_7 : decode cX8_passSecond 7 = .ok (.aload_n 0, 1) := by decide +kernel
theorem dX8_passSecond_8 : decode cX8_passSecond 8 = .ok (.getfield 7, 3) := by decide +kernel
theorem dX8_passSecond_11 : decode cX8_passSecond 11 = .ok (.bipush 6, 2) := by decide +kernel
theorem dX8_passSecond_13 : decode cX8_passSecond 13 = .ok (.iaload, 1) := by decide +kernel
theorem dX8_passSecond_14 : decode cX8_passSecond 14 = .ok (.invokevirtual 74, 3) := by decide +kernel
theorem dX8_passSecond_17 : decode cX8_passSecond 17 = .ok (.iastore, 1) := by decide +kernel
theorem dX8_passSecond_18 : decode cX8_passSecond 18 = .ok (.aload_n 0, 1) := by decide +kernel
theorem dX8_passSecond_19 : decode cX8_passSecond 19 = .ok (.getfield 7, 3) := by decide +kernel
theorem dX8_passSecond_22 : decode cX8_passSecond 22 = .ok (.bipush 7, 2) := by decide +kernel
theorem dX8_passSecond_24 : decode cX8_passSecond 24 = .ok (.dup2, 1) := by decide +kernel
theorem dX8_passSecond_25 : decode cX8_passSecond 25 = .ok (.iaload, 1) := by decide +kernel
theorem dX8_passSecond_26 : decode cX8_passSecond 26 = .ok (.iconst 1, 1) := by decide +kernel
theorem dX8_passSecond_27 : decode cX8_passSecond 27 = .ok (.iadd, 1) := by decide +kernel
theorem dX8_passSecond_28 : decode cX8_passSecond 28 = .ok (.iastore, 1) := by decide +kernel
theorem dX8_passSecond_29 : decode cX8_passSecond 29 = .ok (.aload_n 0, 1) := by decide +kernel
theorem dX8_passSecond_30 : decode cX8_passSecond 30 = .ok (.getfield 7, 3) := by decide +kernel
theorem dX8_passSecond_33 : decode cX8_passSecond 33 = .ok (.bipush 17, 2) := by decide +kernel
theorem dX8_passSecond_35 : decode cX8_passSecond 35 = .ok (.iaload, 1) := by decide +kernel
theorem dX8_passSecond_36 : decode cX8_passSecond 36 = .ok (.iconst 1, 1) := by decide +kernel
theorem dX8_passSecond_37 : decode cX8_passSecond 37 = .ok (.isub, 1) := by decide +kernel
theorem dX8_passSecond_38 : decode cX8_passSecond 38 = .ok (.istore_n 1, 1) := by decide +kernel
theorem dX8_passSecond_39 : decode cX8_passSecond 39 = .ok (.iload_n 1, 1) := by decide +kernel
theorem dX8_passSecond_40 : decode cX8_passSecond 40 = .ok (.ifCond .lt 44, 3) := by decide +kernel
theorem dX8_passSecond_43 : decode cX8_passSecond 43 = .ok (.aload_n 0, 1) := by decide +kernel
theorem dX8_passSecond_44 : decode cX8_passSecond 44 = .ok (.iload_n 1, 1) := by decide +kernel
theorem dX8_passSecond_45 : decode cX8_passSecond 45 = .ok (.invokevirtual 77, 3) := by decide +kernel
theorem dX8_passSecond_48 : decode cX8_passSecond 48 = .ok (.aload_n 0, 1) := by decide +kernel
theorem dX8_passSecond_49 : decode cX8_passSecond 49 = .ok (.getfield 7, 3) := by decide +kernel
theorem dX8_passSecond_52 : decode cX8_passSecond 52 = .ok (.iconst 2, 1) := by decide +kernel
theorem dX8_passSecond_53 : decode cX8_passSecond 53 = .ok (.iaload, 1) := by decide +kernel
theorem dX8_passSecond_54 : decode cX8_passSecond 54 = .ok (.if_icmp .lt 24, 3) := by decide +kernel
theorem dX8_passSecond_57 : decode cX8_passSecond 57 = .ok (.aload_n 0, 1) := by decide +kernel
theorem dX8_passSecond_58 : decode cX8_passSecond 58 = .ok (.aload_n 0, 1) := by decide +kernel
theorem dX8_passSecond_59 : decode cX8_passSecond 59 = .ok (.getfield 7, 3) := by decide +kernel
theorem dX8_passSecond_62 : decode cX8_passSecond 62 = .ok (.sipush 218, 3) := by decide +kernel
theorem dX8_passSecond_65 : decode cX8_passSecond 65 = .ok (.iconst 2, 1) := by decide +kernel
theorem dX8_passSecond_66 : decode cX8_passSecond 66 = .ok (.iload_n 1, 1) := by decide +kernel
theorem dX8_passSecond_67 : decode cX8_passSecond 67 = .ok (.imul, 1) := by decide +kernel
theorem dX8_passSecond_68 : decode cX8_passSecond 68 = .ok (.iadd, 1) := by decide +kernel
theorem dX8_passSecond_69 : decode cX8_passSecond 69 = .ok (.iaload, 1) := by decide +kernel
theorem dX8_passSecond_70 : decode cX8_passSecond 70 = .ok (.invokevirtual 50, 3) := by decide +kernel
theorem dX8_passSecond_73 : decode cX8_passSecond 73 = .ok (.aload_n 0, 1) := by decide +kernel
theorem dX8_passSecond_74 : decode cX8_passSecond 74 = .ok (.iload_n 1, 1) := by decide +kernel
theorem dX8_passSecond_75 : decode cX8_passSecond 75 = .ok (.invokevirtual 80, 3) := by decide +kernel
theorem dX8_passSecond_78 : decode cX8_passSecond 78 = .ok (.iinc 1 (-1), 3) := by decide +kernel
theorem dX8_passSecond_81 : decode cX8_passSecond 81 = .ok (.goto (-42), 3) := by decide +kernel
theorem dX8_passSecond_84 : decode cX8_passSecond 84 = .ok (.return_, 1) := by decide +kernel
set_option maxRecDepth 20000 in
theorem ggX8_doPass_X8_within : GoodIn wsX8_doPass wsX8_within := goodIn_r _ [6] (by decide +kernel) (by decide +kernel)
set_option maxRecDepth 20000 in
theorem gX8_doPass_X8_within : GoodIn wsX8_doPass (va_wsS RX8 32 yX8_within wsX8_within) := goodIn_app (goodIn_of _ (by decide +kernel)) ggX8_doPass_X8_within
set_option maxRecDepth 20000 in
theorem ggX8_doPass_X8_passSecond : GoodIn wsX8_doPass wsX8_passSecond := goodIn_r _ [10, 1, 11, 12, 13, 5, 14, 15, 16, 17, 18, 19, 20, 21, 22, 23, 24, 25, 26, 27, 28, 29, 30, 31, 32, 33, 34, 35, 36, 37, 38] (by decide +kernel) (by decide +kernel)
set_option maxRecDepth 20000 in
theorem gX8_doPass_X8_passSecond : GoodIn wsX8_doPass (wsV RX8 84 RX8 yX8_passSecond wsX8_passSecond) := goodIn_app (goodIn_of _ (by decide +kernel)) ggX8_doPass_X8_passSecond
theorem dX8_doPass_0 : decode cX8_doPass 0 = .ok (.iload_n 1, 1) := by decide +kernel
theorem dX8_doPass_1 : decode cX8_doPass 1 = .ok (.iconst 1, 1) := by decide +kernel
theorem dX8_doPass_2 : decode cX8_doPass 2 = .ok (.bipush 99, 2) := by decide +kernel
theorem dX8_doPass_4 : decode cX8_doPass 4 = .ok (.invokestatic 32, 3) := by decide +kernel
theorem dX8_doPass_7 : decode cX8_doPass 7 = .ok (.ifCond .ne 6, 3) := by decide +kernel
theorem dX8_doPass_10 : decode cX8_doPass 10 = .ok (.bipush (-2), 2) := by decide +kernel
theorem dX8_doPass_12 : decode cX8_doPass 12 = .ok (.ireturn, 1) := by decide +kernel
theorem dX8_doPass_13 : decode cX8_doPass 13 = .ok (.aload_n 0, 1) := by decide +kernel
theorem dX8_doPass_14 : decode cX8_doPass 14 = .ok (.getfield 7, 3) := by decide +kernel
theorem dX8_doPass_17 : decode cX8_doPass 17 = .ok (.bipush 7, 2) := by decide +kernel
theorem dX8_doPass_19 : decode cX8_doPass 19 = .ok (.iaload, 1) := by decide +kernel
theorem dX8_doPass_20 : decode cX8_doPass 20 = .ok (.iload_n 1, 1) := by decide +kernel
theorem dX8_doPass_21 : decode cX8_doPass 21 = .ok (.iadd, 1) := by decide +kernel
theorem dX8_doPass_22 : decode cX8_doPass 22 = .ok (.ldc 83, 2) := by decide +kernel
theorem dX8_doPass_24 : decode cX8_doPass 24 = .ok (.if_icmp .le 6, 3) := by decide +kernel
theorem dX8_doPass_27 : decode cX8_doPass 27 = .ok (.bipush (-5), 2) := by decide +kernel
theorem dX8_doPass_29 : decode cX8_doPass 29 = .ok (.ireturn, 1) := by decide +kernel
theorem dX8_doPass_30 : decode cX8_doPass 30 = .ok (.iconst 0, 1) := by decide +kernel
theorem dX8_doPass_31 : decode cX8_doPass 31 = .ok (.istore_n 2, 1) := by decide +kernel
theorem dX8_doPass_32 : decode cX8_doPass 32 = .ok (.iload_n 2, 1) := by decide +kernel
theorem dX8_doPass_33 : decode cX8_doPass 33 = .ok (.iload_n 1, 1) := by decide +kernel
theorem dX8_doPass_34 : decode cX8_doPass 34 = .ok (.if_icmp .ge 13, 3) := by decide +kernel
theorem dX8_doPass_37 : decode cX8_doPass 37 = .ok (.aload_n 0, 1) := by decide +kernel
theorem dX8_doPass_38 : decode cX8_doPass 38 = .ok (.invokevirtual 84, 3) := by decide +kernel
theorem dX8_doPass_41 : decode cX8_doPass 41 = .ok (.iinc 2 1, 3) := by decide +kernel
theorem dX8_doPass_44 : decode cX8_doPass 44 = .ok (.goto (-12), 3) := by decide +kernel
theorem dX8_doPass_47 : decode cX8_doPass 47 = .ok (.aload_n 0, 1) := by decide +kernel
theorem dX8_doPass_48 : decode cX8_doPass 48 = .ok (.getfield 7, 3) := by decide +kernel
theorem dX8_doPass_51 : decode cX8_doPass 51 = .ok (.bipush 6, 2) := by decide +kernel
theorem dX8_doPass_53 : decode cX8_doPass 53 = .ok (.iaload, 1) := by decide +kernel
theorem dX8_doPass_54 : decode cX8_doPass 54 = .ok (.ireturn, 1) := by decide +kernel
set_option maxRecDepth 20000 in
theorem ggX8_doPlay_X8_isPerformer : GoodIn wsX8_doPlay wsX8_isPerformer := goodIn_r _ [5, 6, 7, 4, 8] (by decide +kernel) (by decide +kernel)
set_option maxRecDepth 20000 in
theorem gX8_doPlay_X8_isPerformer : GoodIn wsX8_doPlay (va_wsS RX8 54 yX8_isPerformer wsX8_isPerformer) := goodIn_app (goodIn_of _ (by decide +kernel)) ggX8_doPlay_X8_isPerformer
set_option maxRecDepth 20000 in
theorem ggX8_doPlay_X8_earliest : GoodIn wsX8_doPlay wsX8_earliest := goodIn_r _ [12, 1, 29, 30, 31, 32, 33, 34, 35, 36, 37, 38, 39, 40] (by decide +kernel) (by decide +kernel)
set_option maxRecDepth 20000 in
theorem gX8_doPlay_X8_earliest : GoodIn wsX8_doPlay (wsV RX8 87 RX8 yX8_earliest wsX8_earliest) := goodIn_app (goodIn_of _ (by decide +kernel)) ggX8_doPlay_X8_earliest
set_option maxRecDepth 20000 in
theorem ggX8_doPlay_X8_drop : GoodIn wsX8_doPlay wsX8_drop := goodIn_r _ [16, 1, 29, 30, 31, 32, 33, 34, 35, 36, 37, 38, 39, 40] (by decide +kernel) (by decide +kernel)
set_option maxRecDepth 20000 in
theorem gX8_doPlay_X8_drop : GoodIn wsX8_doPlay (wsV RX8 80 RX8 yX8_drop wsX8_drop) := goodIn_app (goodIn_of _ (by decide +kernel)) ggX8_doPlay_X8_drop
set_option maxRecDepth 20000 in
theorem ggX8_doPlay_X8_end : GoodIn wsX8_doPlay wsX8_end := goodIn_r _ [20, 1, 21, 22, 23, 4, 24, 29, 30, 31, 32, 33, 34, 35, 36, 37, 38, 39, 40] (by decide +kernel) (by decide +kernel)
set_option maxRecDepth 20000 in
theorem gX8_doPlay_X8_end : GoodIn wsX8_doPlay (wsV RX8 57 RX8 yX8_end wsX8_end) := goodIn_app (goodIn_of _ (by decide +kernel)) ggX8_doPlay_X8_end
set_option maxRecDepth 20000 in
theorem ggX8_doPlay_X8_owes : GoodIn wsX8_doPlay wsX8_owes := goodIn_r _ [28, 1, 29, 30, 31, 32, 33, 34, 35, 36, 37, 38, 39, 40] (by decide +kernel) (by decide +kernel)
set_option maxRecDepth 20000 in
theorem gX8_doPlay_X8_owes : GoodIn wsX8_doPlay (wsV RX8 90 RX8 yX8_owes wsX8_owes) := goodIn_app (goodIn_of _ (by decide +kernel)) ggX8_doPlay_X8_owes
theorem dX8_doPlay_0 : decode cX8_doPlay 0 = .ok (.iload_n 1, 1) := by decide +kernel
theorem dX8_doPlay_1 : decode cX8_doPlay 1 = .ok (.invokestatic 54, 3) := by decide +kernel
theorem dX8_doPlay_4 : decode cX8_doPlay 4 = .ok (.ifCond .ne 5, 3) := by decide +kernel
theorem dX8_doPlay_7 : decode cX8_doPlay 7 = .ok (.iconst (-1), 1) := by decide +kernel
theorem dX8_doPlay_8 : decode cX8_doPlay 8 = .ok (.ireturn, 1) := by decide +kernel
theorem dX8_doPlay_9 : decode cX8_doPlay 9 = .ok (.aload_n 0, 1) := by decide +kernel
theorem dX8_doPlay_10 : decode cX8_doPlay 10 = .ok (.iload_n 1, 1) := by decide +kernel
theorem dX8_doPlay_11 : decode cX8_doPlay 11 = .ok (.invokevirtual 87, 3) := by decide +kernel
theorem dX8_doPlay_14 : decode cX8_doPlay 14 = .ok (.istore_n 2, 1) := by decide +kernel
theorem dX8_doPlay_15 : decode cX8_doPlay 15 = .ok (.iload_n 2, 1) := by decide +kernel
theorem dX8_doPlay_16 : decode cX8_doPlay 16 = .ok (.bipush (-6), 2) := by decide +kernel
theorem dX8_doPlay_18 : decode cX8_doPlay 18 = .ok (.if_icmp .ne 6, 3) := by decide +kernel
theorem dX8_doPlay_21 : decode cX8_doPlay 21 = .ok (.bipush (-5), 2) := by decide +kernel
theorem dX8_doPlay_23 : decode cX8_doPlay 23 = .ok (.ireturn, 1) := by decide +kernel
theorem dX8_doPlay_24 : decode cX8_doPlay 24 = .ok (.aload_n 0, 1) := by decide +kernel
theorem dX8_doPlay_25 : decode cX8_doPlay 25 = .ok (.iload_n 2, 1) := by decide +kernel
theorem dX8_doPlay_26 : decode cX8_doPlay 26 = .ok (.invokevirtual 80, 3) := by decide +kernel
theorem dX8_doPlay_29 : decode cX8_doPlay 29 = .ok (.aload_n 0, 1) := by decide +kernel
theorem dX8_doPlay_30 : decode cX8_doPlay 30 = .ok (.getfield 7, 3) := by decide +kernel
theorem dX8_doPlay_33 : decode cX8_doPlay 33 = .ok (.sipush 200, 3) := by decide +kernel
theorem dX8_doPlay_36 : decode cX8_doPlay 36 = .ok (.iconst 3, 1) := by decide +kernel
theorem dX8_doPlay_37 : decode cX8_doPlay 37 = .ok (.iload_n 1, 1) := by decide +kernel
theorem dX8_doPlay_38 : decode cX8_doPlay 38 = .ok (.imul, 1) := by decide +kernel
theorem dX8_doPlay_39 : decode cX8_doPlay 39 = .ok (.iadd, 1) := by decide +kernel
theorem dX8_doPlay_40 : decode cX8_doPlay 40 = .ok (.iconst 0, 1) := by decide +kernel
theorem dX8_doPlay_41 : decode cX8_doPlay 41 = .ok (.iadd, 1) := by decide +kernel
theorem dX8_doPlay_42 : decode cX8_doPlay 42 = .ok (.dup2, 1) := by decide +kernel
theorem dX8_doPlay_43 : decode cX8_doPlay 43 = .ok (.iaload, 1) := by decide +kernel
theorem dX8_doPlay_44 : decode cX8_doPlay 44 = .ok (.iconst 1, 1) := by decide +kernel
theorem dX8_doPlay_45 : decode cX8_doPlay 45 = .ok (.iadd, 1) := by decide +kernel
theorem dX8_doPlay_46 : decode cX8_doPlay 46 = .ok (.iastore, 1) := by decide +kernel
theorem dX8_doPlay_47 : decode cX8_doPlay 47 = .ok (.aload_n 0, 1) := by decide +kernel
theorem dX8_doPlay_48 : decode cX8_doPlay 48 = .ok (.getfield 7, 3) := by decide +kernel
theorem dX8_doPlay_51 : decode cX8_doPlay 51 = .ok (.bipush 10, 2) := by decide +kernel
theorem dX8_doPlay_53 : decode cX8_doPlay 53 = .ok (.dup2, 1) := by decide +kernel
theorem dX8_doPlay_54 : decode cX8_doPlay 54 = .ok (.iaload, 1) := by decide +kernel
theorem dX8_doPlay_55 : decode cX8_doPlay 55 = .ok (.iconst 1, 1) := by decide +kernel
theorem dX8_doPlay_56 : decode cX8_doPlay 56 = .ok (.iadd, 1) := by decide +kernel
theorem dX8_doPlay_57 : decode cX8_doPlay 57 = .ok (.iastore, 1) := by decide +kernel
theorem dX8_doPlay_58 : decode cX8_doPlay 58 = .ok (.aload_n 0, 1) := by decide +kernel
theorem dX8_doPlay_59 : decode cX8_doPlay 59 = .ok (.iload_n 1, 1) := by decide +kernel
theorem dX8_doPlay_60 : decode cX8_doPlay 60 = .ok (.invokevirtual 57, 3) := by decide +kernel
theorem dX8_doPlay_63 : decode cX8_doPlay 63 = .ok (.istore_n 3, 1) := by decide +kernel
theorem dX8_doPlay_64 : decode cX8_doPlay 64 = .ok (.iload_n 3, 1) := by decide +kernel
theorem dX8_doPlay_65 : decode cX8_doPlay 65 = .ok (.ifCond .ge 7, 3) := by decide +kernel
theorem dX8_doPlay_68 : decode cX8_doPlay 68 = .ok (.iload_n 3, 1) := by decide +kernel
theorem dX8_doPlay_69 : decode cX8_doPlay 69 = .ok (.goto 8, 3) := by decide +kernel
theorem dX8_doPlay_72 : decode cX8_doPlay 72 = .ok (.aload_n 0, 1) := by decide +kernel
theorem dX8_doPlay_73 : decode cX8_doPlay 73 = .ok (.iload_n 1, 1) := by decide +kernel
theorem dX8_doPlay_74 : decode cX8_doPlay 74 = .ok (.invokevirtual 90, 3) := by decide +kernel
theorem dX8_doPlay_77 : decode cX8_doPlay 77 = .ok (.ireturn, 1) := by decide +kernel
theorem dX8_doCall_0 : decode cX8_doCall 0 = .ok (.aload_n 0, 1) := by decide +kernel
theorem dX8_doCall_1 : decode cX8_doCall 1 = .ok (.getfield 7, 3) := by decide +kernel
theorem dX8_doCall_4 : decode cX8_doCall 4 = .ok (.bipush 6, 2) := by decide +kernel
theorem dX8_doCall_6 : decode cX8_doCall 6 = .ok (.iaload, 1) := by decide +kernel
theorem dX8_doCall_7 : decode cX8_doCall 7 = .ok (.aload_n 0, 1) := by decide +kernel
theorem dX8_doCall_8 : decode cX8_doCall 8 = .ok (.getfield 7, 3) := by decide +kernel
theorem dX8_doCall_11 : decode cX8_doCall 11 = .ok (.iconst 5, 1) := by decide +kernel
theorem dX8_doCall_12 : decode cX8_doCall 12 = .ok (.iaload, 1) := by decide +kernel
theorem dX8_doCall_13 : decode cX8_doCall 13 = .ok (.if_icmp .ge 6, 3) := by decide +kernel
theorem dX8_doCall_16 : decode cX8_doCall 16 = .ok (.bipush (-5), 2) := by decide +kernel
theorem dX8_doCall_18 : decode cX8_doCall 18 = .ok (.ireturn, 1) := by decide +kernel
theorem dX8_doCall_19 : decode cX8_doCall 19 = .ok (.aload_n 0, 1) := by decide +kernel
theorem dX8_doCall_20 : decode cX8_doCall 20 = .ok (.getfield 7, 3) := by decide +kernel
theorem dX8_doCall_23 : decode cX8_doCall 23 = .ok (.bipush 6, 2) := by decide +kernel
theorem dX8_doCall_25 : decode cX8_doCall 25 = .ok (.dup2, 1) := by decide +kernel
theorem dX8_doCall_26 : decode cX8_doCall 26 = .ok (.iaload, 1) := by decide +kernel
theorem dX8_doCall_27 : decode cX8_doCall 27 = .ok (.iconst 2, 1) := by decide +kernel
theorem dX8_doCall_28 : decode cX8_doCall 28 = .ok (.idiv, 1) := by decide +kernel
theorem dX8_doCall_29 : decode cX8_doCall 29 = .ok (.iastore, 1) := by decide +kernel
theorem dX8_doCall_30 : decode cX8_doCall 30 = .ok (.aload_n 0, 1) := by decide +kernel
theorem dX8_doCall_31 : decode cX8_doCall 31 = .ok (.getfield 7, 3) := by decide +kernel
theorem dX8_doCall_34 : decode cX8_doCall 34 = .ok (.bipush 12, 2) := by decide +kernel
theorem dX8_doCall_36 : decode cX8_doCall 36 = .ok (.dup2, 1) := by decide +kernel
theorem dX8_doCall_37 : decode cX8_doCall 37 = .ok (.iaload, 1) := by decide +kernel
theorem dX8_doCall_38 : decode cX8_doCall 38 = .ok (.iconst 1, 1) := by decide +kernel
theorem dX8_doCall_39 : decode cX8_doCall 39 = .ok (.iadd, 1) := by decide +kernel
theorem dX8_doCall_40 : decode cX8_doCall 40 = .ok (.iastore, 1) := by decide +kernel
theorem dX8_doCall_41 : decode cX8_doCall 41 = .ok (.aload_n 0, 1) := by decide +kernel
theorem dX8_doCall_42 : decode cX8_doCall 42 = .ok (.getfield 7, 3) := by decide +kernel
theorem dX8_doCall_45 : decode cX8_doCall 45 = .ok (.bipush 6, 2) := by decide +kernel
theorem dX8_doCall_47 : decode cX8_doCall 47 = .ok (.iaload, 1) := by decide +kernel
theorem dX8_doCall_48 : decode cX8_doCall 48 = .ok (.ireturn, 1) := by decide +kernel
theorem dX8_keepRecord_0 : decode cX8_keepRecord 0 = .ok (.bipush 23, 2) := by decide +kernel
theorem dX8_keepRecord_2 : decode cX8_keepRecord 2 = .ok (.istore_n 1, 1) := by decide +kernel
theorem dX8_keepRecord_3 : decode cX8_keepRecord 3 = .ok (.iload_n 1, 1) := by decide +kernel
theorem dX8_keepRecord_4 : decode cX8_keepRecord 4 = .ok (.iconst 3, 1) := by decide +kernel
theorem dX8_keepRecord_5 : decode cX8_keepRecord 5 = .ok (.if_icmp .le 31, 3) := by decide +kernel
theorem dX8_keepRecord_8 : decode cX8_keepRecord 8 = .ok (.aload_n 0, 1) := by decide +kernel
theorem dX8_keepRecord_9 : decode cX8_keepRecord 9 = .ok (.getfield 7, 3) := by decide +kernel
theorem dX8_keepRecord_12 : decode cX8_keepRecord 12 = .ok (.sipush 264, 3) := by decide +kernel
theorem dX8_keepRecord_15 : decode cX8_keepRecord 15 = .ok (.iload_n 1, 1) := by decide +kernel
theorem dX8_keepRecord_16 : decode cX8_keepRecord 16 = .ok (.iadd, 1) := by decide +kernel
theorem dX8_keepRecord_17 : decode cX8_keepRecord 17 = .ok (.aload_n 0, 1) := by decide +kernel
theorem dX8_keepRecord_18 : decode cX8_keepRecord 18 = .ok (.getfield 7, 3) := by decide +kernel
theorem dX8_keepRecord_21 : decode cX8_keepRecord 21 = .ok (.sipush 264, 3) := by decide +kernel
theorem dX8_keepRecord_24 : decode cX8_keepRecord 24 = .ok (.iload_n 1, 1) := by decide +kernel
theorem dX8_keepRecord_25 : decode cX8_keepRecord 25 = .ok (.iadd, 1) := by decide +kernel
theorem dX8_keepRecord_26 : decode cX8_keepRecord 26 = .ok (.iconst 4, 1) := by decide +kernel
theorem dX8_keepRecord_27 : decode cX8_keepRecord 27 = .ok (.isub, 1) := by decide +kernel
theorem dX8_keepRecord_28 : decode cX8_keepRecord 28 = .ok (.iaload, 1) := by decide +kernel
theorem dX8_keepRecord_29 : decode cX8_keepRecord 29 = .ok (.iastore, 1) := by decide +kernel
theorem dX8_keepRecord_30 : decode cX8_keepRecord 30 = .ok (.iinc 1 (-1), 3) := by decide +kernel
theorem dX8_keepRecord_33 : decode cX8_keepRecord 33 = .ok (.goto (-30), 3) := by decide +kernel
theorem dX8_keepRecord_36 : decode cX8_keepRecord 36 = .ok (.iconst 0, 1) := by decide +kernel
theorem dX8_keepRecord_37 : decode cX8_keepRecord 37 = .ok (.istore_n 1, 1) := by decide +kernel
theorem dX8_keepRecord_38 : decode cX8_keepRecord 38 = .ok (.iload_n 1, 1) := by decide +kernel
theorem dX8_keepRecord_39 : decode cX8_keepRecord 39 = .ok (.iconst 4, 1) := by decide +kernel
theorem dX8_keepRecord_40 : decode cX8_keepRecord 40 = .ok (.if_icmp .ge 38, 3) := by decide +kernel
theorem dX8_keepRecord_43 : decode cX8_keepRecord 43 = .ok (.aload_n 0, 1) := by decide +kernel
theorem dX8_keepRecord_44 : decode cX8_keepRecord 44 = .ok (.getfield 7, 3) := by decide +kernel
theorem dX8_keepRecord_47 : decode cX8_keepRecord 47 = .ok (.sipush 264, 3) := by decide +kernel
theorem dX8_keepRecord_50 : decode cX8_keepRecord 50 = .ok (.iload_n 1, 1) := by decide +kernel
theorem dX8_keepRecord_51 : decode cX8_keepRecord 51 = .ok (.iadd, 1) := by decide +kernel
theorem dX8_keepRecord_52 : decode cX8_keepRecord 52 = .ok (.aload_n 0, 1) := by decide +kernel
theorem dX8_keepRecord_53 : decode cX8_keepRecord 53 = .ok (.getfield 7, 3) := by decide +kernel
theorem dX8_keepRecord_56 : decode cX8_keepRecord 56 = .ok (.bipush 9, 2) := by decide +kernel
theorem dX8_keepRecord_58 : decode cX8_keepRecord 58 = .ok (.iload_n 1, 1) := by decide +kernel
theorem dX8_keepRecord_59 : decode cX8_keepRecord 59 = .ok (.iadd, 1) := by decide +kernel
theorem dX8_keepRecord_60 : decode cX8_keepRecord 60 = .ok (.iaload, 1) := by decide +kernel
theorem dX8_keepRecord_61 : decode cX8_keepRecord 61 = .ok (.iastore, 1) := by decide +kernel
theorem dX8_keepRecord_62 : decode cX8_keepRecord 62 = .ok (.aload_n 0, 1) := by decide +kernel
theorem dX8_keepRecord_63 : decode cX8_keepRecord 63 = .ok (.getfield 7, 3) := by decide +kernel
theorem dX8_keepRecord_66 : decode cX8_keepRecord 66 = .ok (.bipush 9, 2) := by decide +kernel
theorem dX8_keepRecord_68 : decode cX8_keepRecord 68 = .ok (.iload_n 1, 1) := by decide +kernel
theorem dX8_keepRecord_69 : decode cX8_keepRecord 69 = .ok (.iadd, 1) := by decide +kernel
theorem dX8_keepRecord_70 : decode cX8_keepRecord 70 = .ok (.iconst 0, 1) := by decide +kernel
theorem dX8_keepRecord_71 : decode cX8_keepRecord 71 = .ok (.iastore, 1) := by decide +kernel
theorem dX8_keepRecord_72 : decode cX8_keepRecord 72 = .ok (.iinc 1 1, 3) := by decide +kernel
theorem dX8_keepRecord_75 : decode cX8_keepRecord 75 = .ok (.goto (-37), 3) := by decide +kernel
theorem dX8_keepRecord_78 : decode cX8_keepRecord 78 = .ok (.aload_n 0, 1) := by decide +kernel
theorem dX8_keepRecord_79 : decode cX8_keepRecord 79 = .ok (.getfield 7, 3) := by decide +kernel
theorem dX8_keepRecord_82 : decode cX8_keepRecord 82 = .ok (.bipush 19, 2) := by decide +kernel
theorem dX8_keepRecord_84 : decode cX8_keepRecord 84 = .ok (.dup2, 1) := by decide +kernel
theorem dX8_keepRecord_85 : decode cX8_keepRecord 85 = .ok (.iaload, 1) := by decide +kernel
theorem dX8_keepRecord_86 : decode cX8_keepRecord 86 = .ok (.aload_n 0, 1) := by decide +kernel
theorem dX8_keepRecord_87 : decode cX8_keepRecord 87 = .ok (.getfield 7, 3) := by decide +kernel
theorem dX8_keepRecord_90 : decode cX8_keepRecord 90 = .ok (.bipush 19, 2) := by decide +kernel
theorem dX8_keepRecord_92 : decode cX8_keepRecord 92 = .ok (.iaload, 1) := by decide +kernel
theorem dX8_keepRecord_93 : decode cX8_keepRecord 93 = .ok (.bipush 6, 2) := by decide +kernel
theorem dX8_keepRecord_95 : decode cX8_keepRecord 95 = .ok (.if_icmp .ge 7, 3) := by decide +kernel
theorem dX8_keepRecord_98 : decode cX8_keepRecord 98 = .ok (.iconst 1, 1) := by decide +kernel
theorem dX8_keepRecord_99 : decode cX8_keepRecord 99 = .ok (.goto 4, 3) := by decide +kernel
theorem dX8_keepRecord_102 : decode cX8_keepRecord 102 = .ok (.iconst 0, 1) := by decide +kernel
theorem dX8_keepRecord_103 : decode cX8_keepRecord 103 = .ok (.iadd, 1) := by decide +kernel
theorem dX8_keepRecord_104 : decode cX8_keepRecord 104 = .ok (.iastore, 1) := by decide +kernel
theorem dX8_keepRecord_105 : decode cX8_keepRecord 105 = .ok (.return_, 1) := by decide +kernel
set_option maxRecDepth 20000 in
theorem ggX8_doNight_X8_countLapse : GoodIn wsX8_doNight wsX8_countLapse := goodIn_r _ [6, 1, 15, 16, 17, 18, 19, 20, 21, 22, 23, 24, 25, 26] (by decide +kernel) (by decide +kernel)
set_option maxRecDepth 20000 in
theorem gX8_doNight_X8_countLapse : GoodIn wsX8_doNight (wsV RX8 50 RX8 yX8_countLapse wsX8_countLapse) := goodIn_app (goodIn_of _ (by decide +kernel)) ggX8_doNight_X8_countLapse
set_option maxRecDepth 20000 in
theorem ggX8_doNight_X8_keepRecord : GoodIn wsX8_doNight wsX8_keepRecord := goodIn_r _ [10, 1, 15, 16, 17, 18, 19, 20, 21, 22, 23, 24, 25, 26] (by decide +kernel) (by decide +kernel)
set_option maxRecDepth 20000 in
theorem gX8_doNight_X8_keepRecord : GoodIn wsX8_doNight (wsV RX8 93 RX8 yX8_keepRecord wsX8_keepRecord) := goodIn_app (goodIn_of _ (by decide +kernel)) ggX8_doNight_X8_keepRecord
set_option maxRecDepth 20000 in
theorem ggX8_doNight_X8_setSeat : GoodIn wsX8_doNight wsX8_setSeat := goodIn_r _ [14, 1, 15, 16, 17, 18, 19, 20, 21, 22, 23, 24, 25, 26] (by decide +kernel) (by decide +kernel)
set_option maxRecDepth 20000 in
theorem gX8_doNight_X8_setSeat : GoodIn wsX8_doNight (wsV RX8 28 RX8 yX8_setSeat wsX8_setSeat) := goodIn_app (goodIn_of _ (by decide +kernel)) ggX8_doNight_X8_setSeat
theorem dX8_doNight_0 : decode cX8_doNight 0 = .ok (.aload_n 0, 1) := by decide +kernel
theorem dX8_doNight_1 : decode cX8_doNight 1 = .ok (.getfield 7, 3) := by decide +kernel
theorem dX8_doNight_4 : decode cX8_doNight 4 = .ok (.bipush 8, 2) := by decide +kernel
theorem dX8_doNight_6 : decode cX8_doNight 6 = .ok (.iaload, 1) := by decide +kernel
theorem dX8_doNight_7 : decode cX8_doNight 7 = .ok (.bipush 99, 2) := by decide +kernel
theorem dX8_doNight_9 : decode cX8_doNight 9 = .ok (.if_icmp .ne 6, 3) := by decide +kernel
theorem dX8_doNight_12 : decode cX8_doNight 12 = .ok (.bipush (-5), 2) := by decide +kernel
theorem dX8_doNight_14 : decode cX8_doNight 14 = .ok (.ireturn, 1) := by decide +kernel
theorem dX8_doNight_15 : decode cX8_doNight 15 = .ok (.aload_n 0, 1) := by decide +kernel
theorem dX8_doNight_16 : decode cX8_doNight 16 = .ok (.getfield 7, 3) := by decide +kernel
theorem dX8_doNight_19 : decode cX8_doNight 19 = .ok (.bipush 17, 2) := by decide +kernel
theorem dX8_doNight_21 : decode cX8_doNight 21 = .ok (.iaload, 1) := by decide +kernel
theorem dX8_doNight_22 : decode cX8_doNight 22 = .ok (.istore_n 1, 1) := by decide +kernel
theorem dX8_doNight_23 : decode cX8_doNight 23 = .ok (.iconst 0, 1) := by decide +kernel
theorem dX8_doNight_24 : decode cX8_doNight 24 = .ok (.istore_n 2, 1) := by decide +kernel
theorem dX8_doNight_25 : decode cX8_doNight 25 = .ok (.iload_n 2, 1) := by decide +kernel
theorem dX8_doNight_26 : decode cX8_doNight 26 = .ok (.iload_n 1, 1) := by decide +kernel
theorem dX8_doNight_27 : decode cX8_doNight 27 = .ok (.if_icmp .ge 25, 3) := by decide +kernel
theorem dX8_doNight_30 : decode cX8_doNight 30 = .ok (.aload_n 0, 1) := by decide +kernel
theorem dX8_doNight_31 : decode cX8_doNight 31 = .ok (.aload_n 0, 1) := by decide +kernel
theorem dX8_doNight_32 : decode cX8_doNight 32 = .ok (.getfield 7, 3) := by decide +kernel
theorem dX8_doNight_35 : decode cX8_doNight 35 = .ok (.sipush 218, 3) := by decide +kernel
theorem dX8_doNight_38 : decode cX8_doNight 38 = .ok (.iconst 2, 1) := by decide +kernel
theorem dX8_doNight_39 : decode cX8_doNight 39 = .ok (.iload_n 2, 1) := by decide +kernel
theorem dX8_doNight_40 : decode cX8_doNight 40 = .ok (.imul, 1) := by decide +kernel
theorem dX8_doNight_41 : decode cX8_doNight 41 = .ok (.iadd, 1) := by decide +kernel
theorem dX8_doNight_42 : decode cX8_doNight 42 = .ok (.iaload, 1) := by decide +kernel
theorem dX8_doNight_43 : decode cX8_doNight 43 = .ok (.invokevirtual 50, 3) := by decide +kernel
theorem dX8_doNight_46 : decode cX8_doNight 46 = .ok (.iinc 2 1, 3) := by decide +kernel
theorem dX8_doNight_49 : decode cX8_doNight 49 = .ok (.goto (-24), 3) := by decide +kernel
theorem dX8_doNight_52 : decode cX8_doNight 52 = .ok (.aload_n 0, 1) := by decide +kernel
theorem dX8_doNight_53 : decode cX8_doNight 53 = .ok (.getfield 7, 3) := by decide +kernel
theorem dX8_doNight_56 : decode cX8_doNight 56 = .ok (.bipush 17, 2) := by decide +kernel
theorem dX8_doNight_58 : decode cX8_doNight 58 = .ok (.iconst 0, 1) := by decide +kernel
theorem dX8_doNight_59 : decode cX8_doNight 59 = .ok (.iastore, 1) := by decide +kernel
theorem dX8_doNight_60 : decode cX8_doNight 60 = .ok (.aload_n 0, 1) := by decide +kernel
theorem dX8_doNight_61 : decode cX8_doNight 61 = .ok (.invokevirtual 93, 3) := by decide +kernel
theorem dX8_doNight_64 : decode cX8_doNight 64 = .ok (.aload_n 0, 1) := by decide +kernel
theorem dX8_doNight_65 : decode cX8_doNight 65 = .ok (.getfield 7, 3) := by decide +kernel
theorem dX8_doNight_68 : decode cX8_doNight 68 = .ok (.bipush 6, 2) := by decide +kernel
theorem dX8_doNight_70 : decode cX8_doNight 70 = .ok (.iconst 0, 1) := by decide +kernel
theorem dX8_doNight_71 : decode cX8_doNight 71 = .ok (.iastore, 1) := by decide +kernel
theorem dX8_doNight_72 : decode cX8_doNight 72 = .ok (.aload_n 0, 1) := by decide +kernel
theorem dX8_doNight_73 : decode cX8_doNight 73 = .ok (.getfield 7, 3) := by decide +kernel
theorem dX8_doNight_76 : decode cX8_doNight 76 = .ok (.bipush 13, 2) := by decide +kernel
theorem dX8_doNight_78 : decode cX8_doNight 78 = .ok (.iconst 0, 1) := by decide +kernel
theorem dX8_doNight_79 : decode cX8_doNight 79 = .ok (.iastore, 1) := by decide +kernel
theorem dX8_doNight_80 : decode cX8_doNight 80 = .ok (.aload_n 0, 1) := by decide +kernel
theorem dX8_doNight_81 : decode cX8_doNight 81 = .ok (.getfield 7, 3) := by decide +kernel
theorem dX8_doNight_84 : decode cX8_doNight 84 = .ok (.bipush 18, 2) := by decide +kernel
theorem dX8_doNight_86 : decode cX8_doNight 86 = .ok (.iconst 0, 1) := by decide +kernel
theorem dX8_doNight_87 : decode cX8_doNight 87 = .ok (.iastore, 1) := by decide +kernel
theorem dX8_doNight_88 : decode cX8_doNight 88 = .ok (.aload_n 0, 1) := by decide +kernel
theorem dX8_doNight_89 : decode cX8_doNight 89 = .ok (.getfield 7, 3) := by decide +kernel
theorem dX8_doNight_92 : decode cX8_doNight 92 = .ok (.bipush 8, 2) := by decide +kernel
theorem dX8_doNight_94 : decode cX8_doNight 94 = .ok (.dup2, 1) := by decide +kernel
theorem dX8_doNight_95 : decode cX8_doNight 95 = .ok (.iaload, 1) := by decide +kernel
theorem dX8_doNight_96 : decode cX8_doNight 96 = .ok (.iconst 1, 1) := by decide +kernel
theorem dX8_doNight_97 : decode cX8_doNight 97 = .ok (.iadd, 1) := by decide +kernel
theorem dX8_doNight_98 : decode cX8_doNight 98 = .ok (.iastore, 1) := by decide +kernel
theorem dX8_doNight_99 : decode cX8_doNight 99 = .ok (.iconst 0, 1) := by decide +kernel
theorem dX8_doNight_100 : decode cX8_doNight 100 = .ok (.istore_n 2, 1) := by decide +kernel
theorem dX8_doNight_101 : decode cX8_doNight 101 = .ok (.iload_n 2, 1) := by decide +kernel
theorem dX8_doNight_102 : decode cX8_doNight 102 = .ok (.bipush 30, 2) := by decide +kernel
theorem dX8_doNight_104 : decode cX8_doNight 104 = .ok (.if_icmp .ge 23, 3) := by decide +kernel
theorem dX8_doNight_107 : decode cX8_doNight 107 = .ok (.aload_n 0, 1) := by decide +kernel
theorem dX8_doNight_108 : decode cX8_doNight 108 = .ok (.iload_n 2, 1) := by decide +kernel
theorem dX8_doNight_109 : decode cX8_doNight 109 = .ok (.iconst 3, 1) := by decide +kernel
theorem dX8_doNight_110 : decode cX8_doNight 110 = .ok (.iconst 0, 1) := by decide +kernel
theorem dX8_doNight_111 : decode cX8_doNight 111 = .ok (.invokevirtual 28, 3) := by decide +kernel
theorem dX8_doNight_114 : decode cX8_doNight 114 = .ok (.aload_n 0, 1) := by decide +kernel
theorem dX8_doNight_115 : decode cX8_doNight 115 = .ok (.iload_n 2, 1) := by decide +kernel
theorem dX8_doNight_116 : decode cX8_doNight 116 = .ok (.iconst 4, 1) := by decide +kernel
theorem dX8_doNight_117 : decode cX8_doNight 117 = .ok (.iconst 0, 1) := by decide +kernel
theorem dX8_doNight_118 : decode cX8_doNight 118 = .ok (.invokevirtual 28, 3) := by decide +kernel
theorem dX8_doNight_121 : decode cX8_doNight 121 = .ok (.iinc 2 1, 3) := by decide +kernel
theorem dX8_doNight_124 : decode cX8_doNight 124 = .ok (.goto (-23), 3) := by decide +kernel
theorem dX8_doNight_127 : decode cX8_doNight 127 = .ok (.iload_n 1, 1) := by decide +kernel
theorem dX8_doNight_128 : decode cX8_doNight 128 = .ok (.ireturn, 1) := by decide +kernel
set_option maxRecDepth 20000 in
theorem ggX8_those_X8_seat : GoodIn wsX8_those wsX8_seat := goodIn_r _ [5, 6, 7, 8, 9, 10, 11, 12, 13, 14, 15, 16, 17, 18] (by decide +kernel) (by decide +kernel)
set_option maxRecDepth 20000 in
theorem gX8_those_X8_seat : GoodIn wsX8_those (wsV RX8 61 RX8 yX8_seat wsX8_seat) := goodIn_app (goodIn_of _ (by decide +kernel)) ggX8_those_X8_seat
theorem dX8_those_0 : decode cX8_those 0 = .ok (.iconst 0, 1) := by decide +kernel
theorem dX8_those_1 : decode cX8_those 1 = .ok (.istore_n 3, 1) := by decide +kernel
theorem dX8_those_2 : decode cX8_those 2 = .ok (.iconst 0, 1) := by decide +kernel
theorem dX8_those_3 : decode cX8_those 3 = .ok (.istore 4, 2) := by decide +kernel
theorem dX8_those_5 : decode cX8_those 5 = .ok (.iload 4, 2) := by decide +kernel
theorem dX8_those_7 : decode cX8_those 7 = .ok (.bipush 30, 2) := by decide +kernel
theorem dX8_those_9 : decode cX8_those 9 = .ok (.if_icmp .ge 66, 3) := by decide +kernel
theorem dX8_those_12 : decode cX8_those 12 = .ok (.iload_n 1, 1) := by decide +kernel
theorem dX8_those_13 : decode cX8_those 13 = .ok (.ifCond .eq 22, 3) := by decide +kernel
theorem dX8_those_16 : decode cX8_those 16 = .ok (.aload_n 0, 1) := by decide +kernel
theorem dX8_those_17 : decode cX8_those 17 = .ok (.iload 4, 2) := by decide +kernel
theorem dX8_those_19 : decode cX8_those 19 = .ok (.iconst 1, 1) := by decide +kernel
theorem dX8_those_20 : decode cX8_those 20 = .ok (.invokevirtual 61, 3) := by decide +kernel
theorem dX8_those_23 : decode cX8_those 23 = .ok (.iconst 1, 1) := by decide +kernel
theorem dX8_those_24 : decode cX8_those 24 = .ok (.if_icmp .ne 7, 3) := by decide +kernel
theorem dX8_those_27 : decode cX8_those 27 = .ok (.iconst 1, 1) := by decide +kernel
theorem dX8_those_28 : decode cX8_those 28 = .ok (.goto 23, 3) := by decide +kernel
theorem dX8_those_31 : decode cX8_those 31 = .ok (.iconst 0, 1) := by decide +kernel
theorem dX8_those_32 : decode cX8_those 32 = .ok (.goto 19, 3) := by decide +kernel
theorem dX8_those_35 : decode cX8_those 35 = .ok (.aload_n 0, 1) := by decide +kernel
theorem dX8_those_36 : decode cX8_those 36 = .ok (.iload 4, 2) := by decide +kernel
theorem dX8_those_38 : decode cX8_those 38 = .ok (.iconst 2, 1) := by decide +kernel
theorem dX8_those_39 : decode cX8_those 39 = .ok (.invokevirtual 61, 3) := by decide +kernel
theorem dX8_those_42 : decode cX8_those 42 = .ok (.iload_n 2, 1) := by decide +kernel
theorem dX8_those_43 : decode cX8_those 43 = .ok (.if_icmp .lt 7, 3) := by decide +kernel
theorem dX8_those_46 : decode cX8_those 46 = .ok (.iconst 1, 1) := by decide +kernel
theorem dX8_those_47 : decode cX8_those 47 = .ok (.goto 4, 3) := by decide +kernel
theorem dX8_those_50 : decode cX8_those 50 = .ok (.iconst 0, 1) := by decide +kernel
theorem dX8_those_51 : decode cX8_those 51 = .ok (.istore 5, 2) := by decide +kernel
theorem dX8_those_53 : decode cX8_those 53 = .ok (.iload_n 3, 1) := by decide +kernel
theorem dX8_those_54 : decode cX8_those 54 = .ok (.iload 5, 2) := by decide +kernel
theorem dX8_those_56 : decode cX8_those 56 = .ok (.ifCond .eq 10, 3) := by decide +kernel
theorem dX8_those_59 : decode cX8_those 59 = .ok (.iconst 1, 1) := by decide +kernel
theorem dX8_those_60 : decode cX8_those 60 = .ok (.iload 4, 2) := by decide +kernel
theorem dX8_those_62 : decode cX8_those 62 = .ok (.ishl, 1) := by decide +kernel
theorem dX8_those_63 : decode cX8_those 63 = .ok (.goto 4, 3) := by decide +kernel
theorem dX8_those_66 : decode cX8_those 66 = .ok (.iconst 0, 1) := by decide +kernel
theorem dX8_those_67 : decode cX8_those 67 = .ok (.ior, 1) := by decide +kernel
theorem dX8_those_68 : decode cX8_those 68 = .ok (.istore_n 3, 1) := by decide +kernel
theorem dX8_those_69 : decode cX8_those 69 = .ok (.iinc 4 1, 3) := by decide +kernel
theorem dX8_those_72 : decode cX8_those 72 = .ok (.goto (-67), 3) := by decide +kernel
theorem dX8_those_75 : decode cX8_those 75 = .ok (.iload_n 3, 1) := by decide +kernel
theorem dX8_those_76 : decode cX8_those 76 = .ok (.ireturn, 1) := by decide +kernel
set_option maxRecDepth 20000 in
theorem ggX8_doPay_X8_isSeat : GoodIn wsX8_doPay wsX8_isSeat := goodIn_r _ [4, 5, 6, 3, 7] (by decide +kernel) (by decide +kernel)
set_option maxRecDepth 20000 in
theorem gX8_doPay_X8_isSeat : GoodIn wsX8_doPay (va_wsS RX8 65 yX8_isSeat wsX8_isSeat) := goodIn_app (goodIn_of _ (by decide +kernel)) ggX8_doPay_X8_isSeat
set_option maxRecDepth 20000 in
theorem ggX8_doPay_X8_seat : GoodIn wsX8_doPay wsX8_seat := goodIn_r _ [11, 12, 21, 22, 23, 24, 25, 26, 27, 28, 29, 30, 31, 32] (by decide +kernel) (by decide +kernel)
set_option maxRecDepth 20000 in
theorem gX8_doPay_X8_seat : GoodIn wsX8_doPay (wsV RX8 61 RX8 yX8_seat wsX8_seat) := goodIn_app (goodIn_of _ (by decide +kernel)) ggX8_doPay_X8_seat
set_option maxRecDepth 20000 in
theorem ggX8_doPay_X8_setSeat : GoodIn wsX8_doPay wsX8_setSeat := goodIn_r _ [16, 12, 21, 22, 23, 24, 25, 26, 27, 28, 29, 30, 31, 32] (by decide +kernel) (by decide +kernel)
set_option maxRecDepth 20000 in
theorem gX8_doPay_X8_setSeat : GoodIn wsX8_doPay (wsV RX8 28 RX8 yX8_setSeat wsX8_setSeat) := goodIn_app (goodIn_of _ (by decide +kernel)) ggX8_doPay_X8_setSeat
set_option maxRecDepth 20000 in
theorem ggX8_doPay_X8_those : GoodIn wsX8_doPay wsX8_those := goodIn_r _ [20, 8, 9, 10, 3, 11, 12, 21, 22, 23, 24, 25, 26, 27, 28, 29, 30, 31, 32] (by decide +kernel) (by decide +kernel)
set_option maxRecDepth 20000 in
theorem gX8_doPay_X8_those : GoodIn wsX8_doPay (wsV RX8 96 RX8 yX8_those wsX8_those) := goodIn_app (goodIn_of _ (by decide +kernel)) ggX8_doPay_X8_those
theorem dX8_doPay_0 : decode cX8_doPay 0 = .ok (.iload_n 1, 1) := by decide +kernel
theorem dX8_doPay_1 : decode cX8_doPay 1 = .ok (.invokestatic 65, 3) := by decide +kernel
theorem dX8_doPay_4 : decode cX8_doPay 4 = .ok (.ifCond .ne 5, 3) := by decide +kernel
theorem dX8_doPay_7 : decode cX8_doPay 7 = .ok (.iconst (-1), 1) := by decide +kernel
theorem dX8_doPay_8 : decode cX8_doPay 8 = .ok (.ireturn, 1) := by decide +kernel
theorem dX8_doPay_9 : decode cX8_doPay 9 = .ok (.aload_n 0, 1) := by decide +kernel
theorem dX8_doPay_10 : decode cX8_doPay 10 = .ok (.iload_n 1, 1) := by decide +kernel
theorem dX8_doPay_11 : decode cX8_doPay 11 = .ok (.iconst 1, 1) := by decide +kernel
theorem dX8_doPay_12 : decode cX8_doPay 12 = .ok (.iconst 1, 1) := by decide +kernel
theorem dX8_doPay_13 : decode cX8_doPay 13 = .ok (.aload_n 0, 1) := by decide +kernel
theorem dX8_doPay_14 : decode cX8_doPay 14 = .ok (.iload_n 1, 1) := by decide +kernel
theorem dX8_doPay_15 : decode cX8_doPay 15 = .ok (.iconst 1, 1) := by decide +kernel
theorem dX8_doPay_16 : decode cX8_doPay 16 = .ok (.invokevirtual 61, 3) := by decide +kernel
theorem dX8_doPay_19 : decode cX8_doPay 19 = .ok (.isub, 1) := by decide +kernel
theorem dX8_doPay_20 : decode cX8_doPay 20 = .ok (.invokevirtual 28, 3) := by decide +kernel
theorem dX8_doPay_23 : decode cX8_doPay 23 = .ok (.aload_n 0, 1) := by decide +kernel
theorem dX8_doPay_24 : decode cX8_doPay 24 = .ok (.iconst 1, 1) := by decide +kernel
theorem dX8_doPay_25 : decode cX8_doPay 25 = .ok (.iconst 0, 1) := by decide +kernel
theorem dX8_doPay_26 : decode cX8_doPay 26 = .ok (.invokevirtual 96, 3) := by decide +kernel
theorem dX8_doPay_29 : decode cX8_doPay 29 = .ok (.ireturn, 1) := by decide +kernel
theorem dX8_leastOf_0 : decode cX8_leastOf 0 = .ok (.iload_n 0, 1) := by decide +kernel
theorem dX8_leastOf_1 : decode cX8_leastOf 1 = .ok (.iconst 1, 1) := by decide +kernel
theorem dX8_leastOf_2 : decode cX8_leastOf 2 = .ok (.if_icmp .ne 8, 3) := by decide +kernel
theorem dX8_leastOf_5 : decode cX8_leastOf 5 = .ok (.bipush 20, 2) := by decide +kernel
theorem dX8_leastOf_7 : decode cX8_leastOf 7 = .ok (.goto 13, 3) := by decide +kernel
theorem dX8_leastOf_10 : decode cX8_leastOf 10 = .ok (.iload_n 0, 1) := by decide +kernel
theorem dX8_leastOf_11 : decode cX8_leastOf 11 = .ok (.iconst 3, 1) := by decide +kernel
theorem dX8_leastOf_12 : decode cX8_leastOf 12 = .ok (.if_icmp .ne 7, 3) := by decide +kernel
theorem dX8_leastOf_15 : decode cX8_leastOf 15 = .ok (.iconst 0, 1) := by decide +kernel
theorem dX8_leastOf_16 : decode cX8_leastOf 16 = .ok (.goto 4, 3) := by decide +kernel
theorem dX8_leastOf_19 : decode cX8_leastOf 19 = .ok (.iconst 1, 1) := by decide +kernel
theorem dX8_leastOf_20 : decode cX8_leastOf 20 = .ok (.ireturn, 1) := by decide +kernel
theorem dX8_mostOf_0 : decode cX8_mostOf 0 = .ok (.iload_n 0, 1) := by decide +kernel
theorem dX8_mostOf_1 : decode cX8_mostOf 1 = .ok (.ifCond .ne 8, 3) := by decide +kernel
theorem dX8_mostOf_4 : decode cX8_mostOf 4 = .ok (.bipush 50, 2) := by decide +kernel
theorem dX8_mostOf_6 : decode cX8_mostOf 6 = .ok (.goto 32, 3) := by decide +kernel
theorem dX8_mostOf_9 : decode cX8_mostOf 9 = .ok (.iload_n 0, 1) := by decide +kernel
theorem dX8_mostOf_10 : decode cX8_mostOf 10 = .ok (.iconst 2, 1) := by decide +kernel
theorem dX8_mostOf_11 : decode cX8_mostOf 11 = .ok (.if_icmp .ne 9, 3) := by decide +kernel
theorem dX8_mostOf_14 : decode cX8_mostOf 14 = .ok (.sipush 300, 3) := by decide +kernel
theorem dX8_mostOf_17 : decode cX8_mostOf 17 = .ok (.goto 21, 3) := by decide +kernel
theorem dX8_mostOf_20 : decode cX8_mostOf 20 = .ok (.iload_n 0, 1) := by decide +kernel
theorem dX8_mostOf_21 : decode cX8_mostOf 21 = .ok (.iconst 3, 1) := by decide +kernel
theorem dX8_mostOf_22 : decode cX8_mostOf 22 = .ok (.if_icmp .eq 8, 3) := by decide +kernel
theorem dX8_mostOf_25 : decode cX8_mostOf 25 = .ok (.iload_n 0, 1) := by decide +kernel
theorem dX8_mostOf_26 : decode cX8_mostOf 26 = .ok (.iconst 4, 1) := by decide +kernel
theorem dX8_mostOf_27 : decode cX8_mostOf 27 = .ok (.if_icmp .ne 8, 3) := by decide +kernel
theorem dX8_mostOf_30 : decode cX8_mostOf 30 = .ok (.bipush 9, 2) := by decide +kernel
theorem dX8_mostOf_32 : decode cX8_mostOf 32 = .ok (.goto 6, 3) := by decide +kernel
theorem dX8_mostOf_35 : decode cX8_mostOf 35 = .ok (.sipush 900, 3) := by decide +kernel
theorem dX8_mostOf_38 : decode cX8_mostOf 38 = .ok (.ireturn, 1) := by decide +kernel
set_option maxRecDepth 20000 in
theorem ggX8_set_X8_within : GoodIn wsX8_set wsX8_within := goodIn_r _ [5] (by decide +kernel) (by decide +kernel)
set_option maxRecDepth 20000 in
theorem gX8_set_X8_within : GoodIn wsX8_set (va_wsS RX8 32 yX8_within wsX8_within) := goodIn_app (goodIn_of _ (by decide +kernel)) ggX8_set_X8_within
set_option maxRecDepth 20000 in
theorem ggX8_set_X8_leastOf : GoodIn wsX8_set wsX8_leastOf := goodIn_r _ [8] (by decide +kernel) (by decide +kernel)
set_option maxRecDepth 20000 in
theorem gX8_set_X8_leastOf : GoodIn wsX8_set (va_wsS RX8 100 yX8_leastOf wsX8_leastOf) := goodIn_app (goodIn_of _ (by decide +kernel)) ggX8_set_X8_leastOf
set_option maxRecDepth 20000 in
theorem ggX8_set_X8_mostOf : GoodIn wsX8_set wsX8_mostOf := goodIn_r _ [11] (by decide +kernel) (by decide +kernel)
set_option maxRecDepth 20000 in
theorem gX8_set_X8_mostOf : GoodIn wsX8_set (va_wsS RX8 103 yX8_mostOf wsX8_mostOf) := goodIn_app (goodIn_of _ (by decide +kernel)) ggX8_set_X8_mostOf
set_option maxRecDepth 20000 in
theorem ggX8_set_X8_putAside : GoodIn wsX8_set wsX8_putAside := goodIn_r _ [15, 16, 1, 27, 28, 29, 30, 31, 32, 33, 34, 35, 36, 37, 38] (by decide +kernel) (by decide +kernel)
set_option maxRecDepth 20000 in
theorem gX8_set_X8_putAside : GoodIn wsX8_set (wsV RX8 47 RX8 yX8_putAside wsX8_putAside) := goodIn_app (goodIn_of _ (by decide +kernel)) ggX8_set_X8_putAside
set_option maxRecDepth 20000 in
theorem ggX8_set_X8_recorded : GoodIn wsX8_set wsX8_recorded := goodIn_r _ [20, 21, 22, 23, 4, 24, 25, 26, 16, 27, 28, 29, 30, 31, 32, 33, 34, 35, 36, 37, 38] (by decide +kernel) (by decide +kernel)
set_option maxRecDepth 20000 in
theorem gX8_set_X8_recorded : GoodIn wsX8_set (wsV RX8 106 RX8 yX8_recorded wsX8_recorded) := goodIn_app (goodIn_of _ (by decide +kernel)) ggX8_set_X8_recorded
theorem dX8_set_0 : decode cX8_set 0 = .ok (.iload_n 1, 1) := by decide +kernel
theorem dX8_set_1 : decode cX8_set 1 = .ok (.iconst 0, 1) := by decide +kernel
theorem dX8_set_2 : decode cX8_set 2 = .ok (.iconst 5, 1) := by decide +kernel
theorem dX8_set_3 : decode cX8_set 3 = .ok (.invokestatic 32, 3) := by decide +kernel
theorem dX8_set_6 : decode cX8_set 6 = .ok (.ifCond .eq 18, 3) := by decide +kernel
theorem dX8_set_9 : decode cX8_set 9 = .ok (.iload_n 2, 1) := by decide +kernel
theorem dX8_set_10 : decode cX8_set 10 = .ok (.iload_n 1, 1) := by decide +kernel
theorem dX8_set_11 : decode cX8_set 11 = .ok (.invokestatic 100, 3) := by decide +kernel
theorem dX8_set_14 : decode cX8_set 14 = .ok (.iload_n 1, 1) := by decide +kernel
theorem dX8_set_15 : decode cX8_set 15 = .ok (.invokestatic 103, 3) := by decide +kernel
theorem dX8_set_18 : decode cX8_set 18 = .ok (.invokestatic 32, 3) := by decide +kernel
theorem dX8_set_21 : decode cX8_set 21 = .ok (.ifCond .ne 6, 3) := by decide +kernel
theorem dX8_set_24 : decode cX8_set 24 = .ok (.bipush (-2), 2) := by decide +kernel
theorem dX8_set_26 : decode cX8_set 26 = .ok (.ireturn, 1) := by decide +kernel
theorem dX8_set_27 : decode cX8_set 27 = .ok (.aload_n 0, 1) := by decide +kernel
theorem dX8_set_28 : decode cX8_set 28 = .ok (.invokevirtual 47, 3) := by decide +kernel
theorem dX8_set_31 : decode cX8_set 31 = .ok (.aload_n 0, 1) := by decide +kernel
theorem dX8_set_32 : decode cX8_set 32 = .ok (.getfield 7, 3) := by decide +kernel
theorem dX8_set_35 : decode cX8_set 35 = .ok (.iload_n 1, 1) := by decide +kernel
theorem dX8_set_36 : decode cX8_set 36 = .ok (.iaload, 1) := by decide +kernel
theorem dX8_set_37 : decode cX8_set 37 = .ok (.istore_n 3, 1) := by decide +kernel
theorem dX8_set_38 : decode cX8_set 38 = .ok (.aload_n 0, 1) := by decide +kernel
theorem dX8_set_39 : decode cX8_set 39 = .ok (.getfield 7, 3) := by decide +kernel
theorem dX8_set_42 : decode cX8_set 42 = .ok (.iload_n 1, 1) := by decide +kernel
theorem dX8_set_43 : decode cX8_set 43 = .ok (.iload_n 2, 1) := by decide +kernel
theorem dX8_set_44 : decode cX8_set 44 = .ok (.iastore, 1) := by decide +kernel
theorem dX8_set_45 : decode cX8_set 45 = .ok (.aload_n 0, 1) := by decide +kernel
theorem dX8_set_46 : decode cX8_set 46 = .ok (.iload_n 3, 1) := by decide +kernel
theorem dX8_set_47 : decode cX8_set 47 = .ok (.invokevirtual 106, 3) := by decide +kernel
theorem dX8_set_50 : decode cX8_set 50 = .ok (.ireturn, 1) := by decide +kernel
set_option maxRecDepth 20000 in
theorem ggX8_loud_X8_isSeat : GoodIn wsX8_loud wsX8_isSeat := goodIn_r _ [4, 5, 6, 3, 7] (by decide +kernel) (by decide +kernel)
set_option maxRecDepth 20000 in
theorem gX8_loud_X8_isSeat : GoodIn wsX8_loud (va_wsS RX8 65 yX8_isSeat wsX8_isSeat) := goodIn_app (goodIn_of _ (by decide +kernel)) ggX8_loud_X8_isSeat
set_option maxRecDepth 20000 in
theorem ggX8_loud_X8_within : GoodIn wsX8_loud wsX8_within := goodIn_r _ [7] (by decide +kernel) (by decide +kernel)
set_option maxRecDepth 20000 in
theorem gX8_loud_X8_within : GoodIn wsX8_loud (va_wsS RX8 32 yX8_within wsX8_within) := goodIn_app (goodIn_of _ (by decide +kernel)) ggX8_loud_X8_within
set_option maxRecDepth 20000 in
theorem ggX8_loud_X8_putAside : GoodIn wsX8_loud wsX8_putAside := goodIn_r _ [11, 12, 13, 32, 33, 34, 35, 36, 37, 38, 39, 40, 41, 42, 43] (by decide +kernel) (by decide +kernel)
set_option maxRecDepth 20000 in
theorem gX8_loud_X8_putAside : GoodIn wsX8_loud (wsV RX8 47 RX8 yX8_putAside wsX8_putAside) := goodIn_app (goodIn_of _ (by decide +kernel)) ggX8_loud_X8_putAside
set_option maxRecDepth 20000 in
theorem ggX8_loud_X8_seat : GoodIn wsX8_loud wsX8_seat := goodIn_r _ [17, 13, 32, 33, 34, 35, 36, 37, 38, 39, 40, 41, 42, 43] (by decide +kernel) (by decide +kernel)
set_option maxRecDepth 20000 in
theorem gX8_loud_X8_seat : GoodIn wsX8_loud (wsV RX8 61 RX8 yX8_seat wsX8_seat) := goodIn_app (goodIn_of _ (by decide +kernel)) ggX8_loud_X8_seat
set_option maxRecDepth 20000 in
theorem ggX8_loud_X8_setSeat : GoodIn wsX8_loud wsX8_setSeat := goodIn_r _ [21, 13, 32, 33, 34, 35, 36, 37, 38, 39, 40, 41, 42, 43] (by decide +kernel) (by decide +kernel)
set_option maxRecDepth 20000 in
theorem gX8_loud_X8_setSeat : GoodIn wsX8_loud (wsV RX8 28 RX8 yX8_setSeat wsX8_setSeat) := goodIn_app (goodIn_of _ (by decide +kernel)) ggX8_loud_X8_setSeat
set_option maxRecDepth 20000 in
theorem ggX8_loud_X8_recorded : GoodIn wsX8_loud wsX8_recorded := goodIn_r _ [25, 26, 27, 28, 3, 29, 30, 31, 12, 32, 33, 34, 35, 36, 37, 38, 39, 40, 41, 42, 43] (by decide +kernel) (by decide +kernel)
set_option maxRecDepth 20000 in
theorem gX8_loud_X8_recorded : GoodIn wsX8_loud (wsV RX8 106 RX8 yX8_recorded wsX8_recorded) := goodIn_app (goodIn_of _ (by decide +kernel)) ggX8_loud_X8_recorded
theorem dX8_loud_0 : decode cX8_loud 0 = .ok (.iload_n 1, 1) := by decide +kernel
theorem dX8_loud_1 : decode cX8_loud 1 = .ok (.invokestatic 65, 3) := by decide +kernel
theorem dX8_loud_4 : decode cX8_loud 4 = .ok (.ifCond .ne 5, 3) := by decide +kernel
theorem dX8_loud_7 : decode cX8_loud 7 = .ok (.iconst (-1), 1) := by decide +kernel
theorem dX8_loud_8 : decode cX8_loud 8 = .ok (.ireturn, 1) := by decide +kernel
theorem dX8_loud_9 : decode cX8_loud 9 = .ok (.iload_n 2, 1) := by decide +kernel
theorem dX8_loud_10 : decode cX8_loud 10 = .ok (.iconst 1, 1) := by decide +kernel
theorem dX8_loud_11 : decode cX8_loud 11 = .ok (.bipush 9, 2) := by decide +kernel
theorem dX8_loud_13 : decode cX8_loud 13 = .ok (.invokestatic 32, 3) := by decide +kernel
theorem dX8_loud_16 : decode cX8_loud 16 = .ok (.ifCond .ne 6, 3) := by decide +kernel
theorem dX8_loud_19 : decode cX8_loud 19 = .ok (.bipush (-2), 2) := by decide +kernel
theorem dX8_loud_21 : decode cX8_loud 21 = .ok (.ireturn, 1) := by decide +kernel
theorem dX8_loud_22 : decode cX8_loud 22 = .ok (.aload_n 0, 1) := by decide +kernel
theorem dX8_loud_23 : decode cX8_loud 23 = .ok (.invokevirtual 47, 3) := by decide +kernel
theorem dX8_loud_26 : decode cX8_loud 26 = .ok (.aload_n 0, 1) := by decide +kernel
theorem dX8_loud_27 : decode cX8_loud 27 = .ok (.iload_n 1, 1) := by decide +kernel
theorem dX8_loud_28 : decode cX8_loud 28 = .ok (.iconst 0, 1) := by decide +kernel
theorem dX8_loud_29 : decode cX8_loud 29 = .ok (.invokevirtual 61, 3) := by decide +kernel
theorem dX8_loud_32 : decode cX8_loud 32 = .ok (.istore_n 3, 1) := by decide +kernel
theorem dX8_loud_33 : decode cX8_loud 33 = .ok (.aload_n 0, 1) := by decide +kernel
theorem dX8_loud_34 : decode cX8_loud 34 = .ok (.iload_n 1, 1) := by decide +kernel
theorem dX8_loud_35 : decode cX8_loud 35 = .ok (.iconst 0, 1) := by decide +kernel
theorem dX8_loud_36 : decode cX8_loud 36 = .ok (.iload_n 2, 1) := by decide +kernel
theorem dX8_loud_37 : decode cX8_loud 37 = .ok (.invokevirtual 28, 3) := by decide +kernel
theorem dX8_loud_40 : decode cX8_loud 40 = .ok (.aload_n 0, 1) := by decide +kernel
theorem dX8_loud_41 : decode cX8_loud 41 = .ok (.iload_n 3, 1) := by decide +kernel
theorem dX8_loud_42 : decode cX8_loud 42 = .ok (.invokevirtual 106, 3) := by decide +kernel
theorem dX8_loud_45 : decode cX8_loud 45 = .ok (.ireturn, 1) := by decide +kernel
set_option maxRecDepth 20000 in
theorem ggX8_pay_X8_putAside : GoodIn wsX8_pay wsX8_putAside := goodIn_r _ [5, 6, 7, 40, 41, 42, 43, 44, 45, 46, 47, 48, 49, 50, 51] (by decide +kernel) (by decide +kernel)
set_option maxRecDepth 20000 in
theorem gX8_pay_X8_putAside : GoodIn wsX8_pay (wsV RX8 47 RX8 yX8_putAside wsX8_putAside) := goodIn_app (goodIn_of _ (by decide +kernel)) ggX8_pay_X8_putAside
set_option maxRecDepth 20000 in
theorem ggX8_pay_X8_doPay : GoodIn wsX8_pay wsX8_doPay := goodIn_r _ [11, 12, 13, 4, 14, 15, 16, 17, 18, 19, 20, 21, 7, 22, 23, 24, 25, 26, 27, 28, 29, 40, 41, 42, 43, 44, 45, 46, 47, 48, 49, 50, 51] (by decide +kernel) (by decide +kernel)
set_option maxRecDepth 20000 in
theorem gX8_pay_X8_doPay : GoodIn wsX8_pay (wsV RX8 109 RX8 yX8_doPay wsX8_doPay) := goodIn_app (goodIn_of _ (by decide +kernel)) ggX8_pay_X8_doPay
set_option maxRecDepth 20000 in
theorem ggX8_pay_X8_recorded : GoodIn wsX8_pay wsX8_recorded := goodIn_r _ [33, 34, 35, 36, 4, 37, 38, 39, 6, 40, 41, 42, 43, 44, 45, 46, 47, 48, 49, 50, 51] (by decide +kernel) (by decide +kernel)
set_option maxRecDepth 20000 in
theorem gX8_pay_X8_recorded : GoodIn wsX8_pay (wsV RX8 106 RX8 yX8_recorded wsX8_recorded) := goodIn_app (goodIn_of _ (by decide +kernel)) ggX8_pay_X8_recorded
theorem dX8_pay_0 : decode cX8_pay 0 = .ok (.aload_n 0, 1) := by decide +kernel
theorem dX8_pay_1 : decode cX8_pay 1 = .ok (.invokevirtual 47, 3) := by decide +kernel
theorem dX8_pay_4 : decode cX8_pay 4 = .ok (.aload_n 0, 1) := by decide +kernel
theorem dX8_pay_5 : decode cX8_pay 5 = .ok (.aload_n 0, 1) := by decide +kernel
theorem dX8_pay_6 : decode cX8_pay 6 = .ok (.iload_n 1, 1) := by decide +kernel
theorem dX8_pay_7 : decode cX8_pay 7 = .ok (.invokevirtual 109, 3) := by decide +kernel
theorem dX8_pay_10 : decode cX8_pay 10 = .ok (.invokevirtual 106, 3) := by decide +kernel
theorem dX8_pay_13 : decode cX8_pay 13 = .ok (.ireturn, 1) := by decide +kernel
set_option maxRecDepth 20000 in
theorem ggX8_ends_X8_putAside : GoodIn wsX8_ends wsX8_putAside := goodIn_r _ [5, 6, 7, 36, 37, 38, 39, 40, 41, 42, 43, 44, 45, 46, 47] (by decide +kernel) (by decide +kernel)
set_option maxRecDepth 20000 in
theorem gX8_ends_X8_putAside : GoodIn wsX8_ends (wsV RX8 47 RX8 yX8_putAside wsX8_putAside) := goodIn_app (goodIn_of _ (by decide +kernel)) ggX8_ends_X8_putAside
set_option maxRecDepth 20000 in
theorem ggX8_ends_X8_doEnds : GoodIn wsX8_ends wsX8_doEnds := goodIn_r _ [11, 12, 13, 4, 14, 15, 16, 17, 18, 19, 20, 21, 7, 22, 23, 24, 25, 36, 37, 38, 39, 40, 41, 42, 43, 44, 45, 46, 47] (by decide +kernel) (by decide +kernel)
set_option maxRecDepth 20000 in
theorem gX8_ends_X8_doEnds : GoodIn wsX8_ends (wsV RX8 112 RX8 yX8_doEnds wsX8_doEnds) := goodIn_app (goodIn_of _ (by decide +kernel)) ggX8_ends_X8_doEnds
set_option maxRecDepth 20000 in
theorem ggX8_ends_X8_recorded : GoodIn wsX8_ends wsX8_recorded := goodIn_r _ [29, 30, 31, 32, 4, 33, 34, 35, 6, 36, 37, 38, 39, 40, 41, 42, 43, 44, 45, 46, 47] (by decide +kernel) (by decide +kernel)
set_option maxRecDepth 20000 in
theorem gX8_ends_X8_recorded : GoodIn wsX8_ends (wsV RX8 106 RX8 yX8_recorded wsX8_recorded) := goodIn_app (goodIn_of _ (by decide +kernel)) ggX8_ends_X8_recorded
theorem dX8_ends_0 : decode cX8_ends 0 = .ok (.aload_n 0, 1) := by decide +kernel
theorem dX8_ends_1 : decode cX8_ends 1 = .ok (.invokevirtual 47, 3) := by decide +kernel
theorem dX8_ends_4 : decode cX8_ends 4 = .ok (.aload_n 0, 1) := by decide +kernel
theorem dX8_ends_5 : decode cX8_ends 5 = .ok (.aload_n 0, 1) := by decide +kernel
theorem dX8_ends_6 : decode cX8_ends 6 = .ok (.iload_n 1, 1) := by decide +kernel
theorem dX8_ends_7 : decode cX8_ends 7 = .ok (.invokevirtual 112, 3) := by decide +kernel
theorem dX8_ends_10 : decode cX8_ends 10 = .ok (.invokevirtual 106, 3) := by decide +kernel
theorem dX8_ends_13 : decode cX8_ends 13 = .ok (.ireturn, 1) := by decide +kernel
set_option maxRecDepth 20000 in
theorem ggX8_clap_X8_putAside : GoodIn wsX8_clap wsX8_putAside := goodIn_r _ [5, 6, 7, 48, 49, 50, 51, 52, 53, 54, 55, 56, 57, 58, 59] (by decide +kernel) (by decide +kernel)
set_option maxRecDepth 20000 in
theorem gX8_clap_X8_putAside : GoodIn wsX8_clap (wsV RX8 47 RX8 yX8_putAside wsX8_putAside) := goodIn_app (goodIn_of _ (by decide +kernel)) ggX8_clap_X8_putAside
set_option maxRecDepth 20000 in
theorem ggX8_clap_X8_doClap : GoodIn wsX8_clap wsX8_doClap := goodIn_r _ [11, 7, 12, 13, 4, 14, 15, 16, 17, 18, 19, 20, 21, 22, 23, 24, 25, 26, 27, 28, 29, 30, 31, 32, 33, 34, 35, 36, 37, 48, 49, 50, 51, 52, 53, 54, 55, 56, 57, 58, 59] (by decide +kernel) (by decide +kernel)
set_option maxRecDepth 20000 in
theorem gX8_clap_X8_doClap : GoodIn wsX8_clap (wsV RX8 115 RX8 yX8_doClap wsX8_doClap) := goodIn_app (goodIn_of _ (by decide +kernel)) ggX8_clap_X8_doClap
set_option maxRecDepth 20000 in
theorem ggX8_clap_X8_recorded : GoodIn wsX8_clap wsX8_recorded := goodIn_r _ [41, 42, 43, 44, 4, 45, 46, 47, 6, 48, 49, 50, 51, 52, 53, 54, 55, 56, 57, 58, 59] (by decide +kernel) (by decide +kernel)
set_option maxRecDepth 20000 in
theorem gX8_clap_X8_recorded : GoodIn wsX8_clap (wsV RX8 106 RX8 yX8_recorded wsX8_recorded) := goodIn_app (goodIn_of _ (by decide +kernel)) ggX8_clap_X8_recorded
theorem dX8_clap_0 : decode cX8_clap 0 = .ok (.aload_n 0, 1) := by decide +kernel
theorem dX8_clap_1 : decode cX8_clap 1 = .ok (.invokevirtual 47, 3) := by decide +kernel
theorem dX8_clap_4 : decode cX8_clap 4 = .ok (.aload_n 0, 1) := by decide +kernel
theorem dX8_clap_5 : decode cX8_clap 5 = .ok (.aload_n 0, 1) := by decide +kernel
theorem dX8_clap_6 : decode cX8_clap 6 = .ok (.iload_n 1, 1) := by decide +kernel
theorem dX8_clap_7 : decode cX8_clap 7 = .ok (.invokevirtual 115, 3) := by decide +kernel
theorem dX8_clap_10 : decode cX8_clap 10 = .ok (.invokevirtual 106, 3) := by decide +kernel
theorem dX8_clap_13 : decode cX8_clap 13 = .ok (.ireturn, 1) := by decide +kernel
set_option maxRecDepth 20000 in
theorem ggX8_pass_X8_putAside : GoodIn wsX8_pass wsX8_putAside := goodIn_r _ [5, 6, 7, 46, 47, 48, 49, 50, 51, 52, 53, 54, 55, 56, 57] (by decide +kernel) (by decide +kernel)
set_option maxRecDepth 20000 in
theorem gX8_pass_X8_putAside : GoodIn wsX8_pass (wsV RX8 47 RX8 yX8_putAside wsX8_putAside) := goodIn_app (goodIn_of _ (by decide +kernel)) ggX8_pass_X8_putAside
set_option maxRecDepth 20000 in
theorem ggX8_pass_X8_doPass : GoodIn wsX8_pass wsX8_doPass := goodIn_r _ [11, 7, 12, 13, 14, 4, 15, 16, 17, 18, 19, 20, 21, 22, 23, 24, 25, 26, 27, 28, 29, 30, 31, 32, 33, 34, 35, 46, 47, 48, 49, 50, 51, 52, 53, 54, 55, 56, 57] (by decide +kernel) (by decide +kernel)
set_option maxRecDepth 20000 in
theorem gX8_pass_X8_doPass : GoodIn wsX8_pass (wsV RX8 118 RX8 yX8_doPass wsX8_doPass) := goodIn_app (goodIn_of _ (by decide +kernel)) ggX8_pass_X8_doPass
set_option maxRecDepth 20000 in
theorem ggX8_pass_X8_recorded : GoodIn wsX8_pass wsX8_recorded := goodIn_r _ [39, 40, 41, 42, 4, 43, 44, 45, 6, 46, 47, 48, 49, 50, 51, 52, 53, 54, 55, 56, 57] (by decide +kernel) (by decide +kernel)
set_option maxRecDepth 20000 in
theorem gX8_pass_X8_recorded : GoodIn wsX8_pass (wsV RX8 106 RX8 yX8_recorded wsX8_recorded) := goodIn_app (goodIn_of _ (by decide +kernel)) ggX8_pass_X8_recorded
theorem dX8_pass_0 : decode cX8_pass 0 = .ok (.aload_n 0, 1) := by decide +kernel
theorem dX8_pass_1 : decode cX8_pass 1 = .ok (.invokevirtual 47, 3) := by decide +kernel
theorem dX8_pass_4 : decode cX8_pass 4 = .ok (.aload_n 0, 1) := by decide +kernel
theorem dX8_pass_5 : decode cX8_pass 5 = .ok (.aload_n 0, 1) := by decide +kernel
theorem dX8_pass_6 : decode cX8_pass 6 = .ok (.iload_n 1, 1) := by decide +kernel
theorem dX8_pass_7 : decode cX8_pass 7 = .ok (.invokevirtual 118, 3) := by decide +kernel
theorem dX8_pass_10 : decode cX8_pass 10 = .ok (.invokevirtual 106, 3) := by decide +kernel
theorem dX8_pass_13 : decode cX8_pass 13 = .ok (.ireturn, 1) := by decide +kernel
set_option maxRecDepth 20000 in
theorem ggX8_play_X8_putAside : GoodIn wsX8_play wsX8_putAside := goodIn_r _ [5, 6, 7, 48, 49, 50, 51, 52, 53, 54, 55, 56, 57, 58, 59] (by decide +kernel) (by decide +kernel)
set_option maxRecDepth 20000 in
theorem gX8_play_X8_putAside : GoodIn wsX8_play (wsV RX8 47 RX8 yX8_putAside wsX8_putAside) := goodIn_app (goodIn_of _ (by decide +kernel)) ggX8_play_X8_putAside
set_option maxRecDepth 20000 in
theorem ggX8_play_X8_doPlay : GoodIn wsX8_play wsX8_doPlay := goodIn_r _ [11, 7, 12, 13, 4, 14, 15, 16, 17, 18, 19, 20, 21, 22, 23, 24, 25, 26, 27, 28, 29, 30, 31, 32, 33, 34, 35, 36, 37, 48, 49, 50, 51, 52, 53, 54, 55, 56, 57, 58, 59] (by decide +kernel) (by decide +kernel)
set_option maxRecDepth 20000 in
theorem gX8_play_X8_doPlay : GoodIn wsX8_play (wsV RX8 121 RX8 yX8_doPlay wsX8_doPlay) := goodIn_app (goodIn_of _ (by decide +kernel)) ggX8_play_X8_doPlay
set_option maxRecDepth 20000 in
theorem ggX8_play_X8_recorded : GoodIn wsX8_play wsX8_recorded := goodIn_r _ [41, 42, 43, 44, 4, 45, 46, 47, 6, 48, 49, 50, 51, 52, 53, 54, 55, 56, 57, 58, 59] (by decide +kernel) (by decide +kernel)
set_option maxRecDepth 20000 in
theorem gX8_play_X8_recorded : GoodIn wsX8_play (wsV RX8 106 RX8 yX8_recorded wsX8_recorded) := goodIn_app (goodIn_of _ (by decide +kernel)) ggX8_play_X8_recorded
theorem dX8_play_0 : decode cX8_play 0 = .ok (.aload_n 0, 1) := by decide +kernel
theorem dX8_play_1 : decode cX8_play 1 = .ok (.invokevirtual 47, 3) := by decide +kernel
theorem dX8_play_4 : decode cX8_play 4 = .ok (.aload_n 0, 1) := by decide +kernel
theorem dX8_play_5 : decode cX8_play 5 = .ok (.aload_n 0, 1) := by decide +kernel
theorem dX8_play_6 : decode cX8_play 6 = .ok (.iload_n 1, 1) := by decide +kernel
theorem dX8_play_7 : decode cX8_play 7 = .ok (.invokevirtual 121, 3) := by decide +kernel
theorem dX8_play_10 : decode cX8_play 10 = .ok (.invokevirtual 106, 3) := by decide +kernel
theorem dX8_play_13 : decode cX8_play 13 = .ok (.ireturn, 1) := by decide +kernel
set_option maxRecDepth 20000 in
theorem ggX8_call_X8_putAside : GoodIn wsX8_call wsX8_putAside := goodIn_r _ [5, 6, 7, 22, 23, 24, 25, 26, 27, 28, 29, 30, 31, 32, 33] (by decide +kernel) (by decide +kernel)
set_option maxRecDepth 20000 in
theorem gX8_call_X8_putAside : GoodIn wsX8_call (wsV RX8 47 RX8 yX8_putAside wsX8_putAside) := goodIn_app (goodIn_of _ (by decide +kernel)) ggX8_call_X8_putAside
set_option maxRecDepth 20000 in
theorem ggX8_call_X8_doCall : GoodIn wsX8_call wsX8_doCall := goodIn_r _ [11, 7, 22, 23, 24, 25, 26, 27, 28, 29, 30, 31, 32, 33] (by decide +kernel) (by decide +kernel)
set_option maxRecDepth 20000 in
theorem gX8_call_X8_doCall : GoodIn wsX8_call (wsV RX8 124 RX8 yX8_doCall wsX8_doCall) := goodIn_app (goodIn_of _ (by decide +kernel)) ggX8_call_X8_doCall
set_option maxRecDepth 20000 in
theorem ggX8_call_X8_recorded : GoodIn wsX8_call wsX8_recorded := goodIn_r _ [15, 16, 17, 18, 4, 19, 20, 21, 6, 22, 23, 24, 25, 26, 27, 28, 29, 30, 31, 32, 33] (by decide +kernel) (by decide +kernel)
set_option maxRecDepth 20000 in
theorem gX8_call_X8_recorded : GoodIn wsX8_call (wsV RX8 106 RX8 yX8_recorded wsX8_recorded) := goodIn_app (goodIn_of _ (by decide +kernel)) ggX8_call_X8_recorded
theorem dX8_call_0 : decode cX8_call 0 = .ok (.aload_n 0, 1) := by decide +kernel
theorem dX8_call_1 : decode cX8_call 1 = .ok (.invokevirtual 47, 3) := by decide +kernel
theorem dX8_call_4 : decode cX8_call 4 = .ok (.aload_n 0, 1) := by decide +kernel
theorem dX8_call_5 : decode cX8_call 5 = .ok (.aload_n 0, 1) := by decide +kernel
theorem dX8_call_6 : decode cX8_call 6 = .ok (.invokevirtual 124, 3) := by decide +kernel
theorem dX8_call_9 : decode cX8_call 9 = .ok (.invokevirtual 106, 3) := by decide +kernel
theorem dX8_call_12 : decode cX8_call 12 = .ok (.ireturn, 1) := by decide +kernel
set_option maxRecDepth 20000 in
theorem ggX8_night_X8_putAside : GoodIn wsX8_night wsX8_putAside := goodIn_r _ [5, 6, 7, 34, 35, 36, 37, 38, 39, 40, 41, 42, 43, 44, 45] (by decide +kernel) (by decide +kernel)
set_option maxRecDepth 20000 in
theorem gX8_night_X8_putAside : GoodIn wsX8_night (wsV RX8 47 RX8 yX8_putAside wsX8_putAside) := goodIn_app (goodIn_of _ (by decide +kernel)) ggX8_night_X8_putAside
set_option maxRecDepth 20000 in
theorem ggX8_night_X8_doNight : GoodIn wsX8_night wsX8_doNight := goodIn_r _ [11, 7, 12, 13, 14, 4, 15, 16, 17, 18, 19, 20, 21, 22, 23, 34, 35, 36, 37, 38, 39, 40, 41, 42, 43, 44, 45] (by decide +kernel) (by decide +kernel)
set_option maxRecDepth 20000 in
theorem gX8_night_X8_doNight : GoodIn wsX8_night (wsV RX8 128 RX8 yX8_doNight wsX8_doNight) := goodIn_app (goodIn_of _ (by decide +kernel)) ggX8_night_X8_doNight
set_option maxRecDepth 20000 in
theorem ggX8_night_X8_recorded : GoodIn wsX8_night wsX8_recorded := goodIn_r _ [27, 28, 29, 30, 4, 31, 32, 33, 6, 34, 35, 36, 37, 38, 39, 40, 41, 42, 43, 44, 45] (by decide +kernel) (by decide +kernel)
set_option maxRecDepth 20000 in
theorem gX8_night_X8_recorded : GoodIn wsX8_night (wsV RX8 106 RX8 yX8_recorded wsX8_recorded) := goodIn_app (goodIn_of _ (by decide +kernel)) ggX8_night_X8_recorded
theorem dX8_night_0 : decode cX8_night 0 = .ok (.aload_n 0, 1) := by decide +kernel
theorem dX8_night_1 : decode cX8_night 1 = .ok (.invokevirtual 47, 3) := by decide +kernel
theorem dX8_night_4 : decode cX8_night 4 = .ok (.aload_n 0, 1) := by decide +kernel
theorem dX8_night_5 : decode cX8_night 5 = .ok (.aload_n 0, 1) := by decide +kernel
theorem dX8_night_6 : decode cX8_night 6 = .ok (.invokevirtual 128, 3) := by decide +kernel
theorem dX8_night_9 : decode cX8_night 9 = .ok (.invokevirtual 106, 3) := by decide +kernel
theorem dX8_night_12 : decode cX8_night 12 = .ok (.ireturn, 1) := by decide +kernel
theorem dX8_writeSign_0 : decode cX8_writeSign 0 = .ok (.aload_n 0, 1) := by decide +kernel
theorem dX8_writeSign_1 : decode cX8_writeSign 1 = .ok (.getfield 25, 3) := by decide +kernel
theorem dX8_writeSign_4 : decode cX8_writeSign 4 = .ok (.aload_n 0, 1) := by decide +kernel
theorem dX8_writeSign_5 : decode cX8_writeSign 5 = .ok (.getfield 131, 3) := by decide +kernel
theorem dX8_writeSign_8 : decode cX8_writeSign 8 = .ok (.iload_n 1, 1) := by decide +kernel
theorem dX8_writeSign_9 : decode cX8_writeSign 9 = .ok (.iastore, 1) := by decide +kernel
theorem dX8_writeSign_10 : decode cX8_writeSign 10 = .ok (.aload_n 0, 1) := by decide +kernel
theorem dX8_writeSign_11 : decode cX8_writeSign 11 = .ok (.dup, 1) := by decide +kernel
theorem dX8_writeSign_12 : decode cX8_writeSign 12 = .ok (.getfield 131, 3) := by decide +kernel
theorem dX8_writeSign_15 : decode cX8_writeSign 15 = .ok (.iconst 1, 1) := by decide +kernel
theorem dX8_writeSign_16 : decode cX8_writeSign 16 = .ok (.iadd, 1) := by decide +kernel
theorem dX8_writeSign_17 : decode cX8_writeSign 17 = .ok (.putfield 131, 3) := by decide +kernel
theorem dX8_writeSign_20 : decode cX8_writeSign 20 = .ok (.return_, 1) := by decide +kernel
set_option maxRecDepth 20000 in
theorem ggX8_writeNumber_X8_writeSign : GoodIn wsX8_writeNumber wsX8_writeSign := goodIn_r _ [5, 6, 7, 8, 9, 10, 11, 12, 13, 14, 15, 16, 17, 18, 19] (by decide +kernel) (by decide +kernel)
set_option maxRecDepth 20000 in
theorem gX8_writeNumber_X8_writeSign : GoodIn wsX8_writeNumber (wsV RX8 134 RX8 yX8_writeSign wsX8_writeSign) := goodIn_app (goodIn_of _ (by decide +kernel)) ggX8_writeNumber_X8_writeSign
theorem dX8_writeNumber_0 : decode cX8_writeNumber 0 = .ok (.iconst 1, 1) := by decide +kernel
theorem dX8_writeNumber_1 : decode cX8_writeNumber 1 = .ok (.istore_n 2, 1) := by decide +kernel
theorem dX8_writeNumber_2 : decode cX8_writeNumber 2 = .ok (.iload_n 1, 1) := by decide +kernel
theorem dX8_writeNumber_3 : decode cX8_writeNumber 3 = .ok (.iload_n 2, 1) := by decide +kernel
theorem dX8_writeNumber_4 : decode cX8_writeNumber 4 = .ok (.idiv, 1) := by decide +kernel
theorem dX8_writeNumber_5 : decode cX8_writeNumber 5 = .ok (.bipush 9, 2) := by decide +kernel
theorem dX8_writeNumber_7 : decode cX8_writeNumber 7 = .ok (.if_icmp .le 11, 3) := by decide +kernel
theorem dX8_writeNumber_10 : decode cX8_writeNumber 10 = .ok (.iload_n 2, 1) := by decide +kernel
theorem dX8_writeNumber_11 : decode cX8_writeNumber 11 = .ok (.bipush 10, 2) := by decide +kernel
theorem dX8_writeNumber_13 : decode cX8_writeNumber 13 = .ok (.imul, 1) := by decide +kernel
theorem dX8_writeNumber_14 : decode cX8_writeNumber 14 = .ok (.istore_n 2, 1) := by decide +kernel
theorem dX8_writeNumber_15 : decode cX8_writeNumber 15 = .ok (.goto (-13), 3) := by decide +kernel
theorem dX8_writeNumber_18 : decode cX8_writeNumber 18 = .ok (.iload_n 2, 1) := by decide +kernel
theorem dX8_writeNumber_19 : decode cX8_writeNumber 19 = .ok (.ifCond .le 24, 3) := by decide +kernel
theorem dX8_writeNumber_22 : decode cX8_writeNumber 22 = .ok (.aload_n 0, 1) := by decide +kernel
theorem dX8_writeNumber_23 : decode cX8_writeNumber 23 = .ok (.bipush 48, 2) := by decide +kernel
theorem dX8_writeNumber_25 : decode cX8_writeNumber 25 = .ok (.iload_n 1, 1) := by decide +kernel
theorem dX8_writeNumber_26 : decode cX8_writeNumber 26 = .ok (.iload_n 2, 1) := by decide +kernel
theorem dX8_writeNumber_27 : decode cX8_writeNumber 27 = .ok (.idiv, 1) := by decide +kernel
theorem dX8_writeNumber_28 : decode cX8_writeNumber 28 = .ok (.bipush 10, 2) := by decide +kernel
theorem dX8_writeNumber_30 : decode cX8_writeNumber 30 = .ok (.irem, 1) := by decide +kernel
theorem dX8_writeNumber_31 : decode cX8_writeNumber 31 = .ok (.iadd, 1) := by decide +kernel
theorem dX8_writeNumber_32 : decode cX8_writeNumber 32 = .ok (.invokevirtual 134, 3) := by decide +kernel
theorem dX8_writeNumber_35 : decode cX8_writeNumber 35 = .ok (.iload_n 2, 1) := by decide +kernel
theorem dX8_writeNumber_36 : decode cX8_writeNumber 36 = .ok (.bipush 10, 2) := by decide +kernel
theorem dX8_writeNumber_38 : decode cX8_writeNumber 38 = .ok (.idiv, 1) := by decide +kernel
theorem dX8_writeNumber_39 : decode cX8_writeNumber 39 = .ok (.istore_n 2, 1) := by decide +kernel
theorem dX8_writeNumber_40 : decode cX8_writeNumber 40 = .ok (.goto (-22), 3) := by decide +kernel
theorem dX8_writeNumber_43 : decode cX8_writeNumber 43 = .ok (.return_, 1) := by decide +kernel
set_option maxRecDepth 20000 in
theorem ggX8_write_X8_writeSign : GoodIn wsX8_write wsX8_writeSign := goodIn_r _ [7, 8, 1, 17, 18, 19, 20, 21, 22, 23, 24, 25, 26, 27, 28] (by decide +kernel) (by decide +kernel)
set_option maxRecDepth 20000 in
theorem gX8_write_X8_writeSign : GoodIn wsX8_write (wsV RX8 134 RX8 yX8_writeSign wsX8_writeSign) := goodIn_app (goodIn_of _ (by decide +kernel)) ggX8_write_X8_writeSign
set_option maxRecDepth 20000 in
theorem ggX8_write_X8_writeNumber : GoodIn wsX8_write wsX8_writeNumber := goodIn_r _ [12, 3, 4, 5, 6, 7, 8, 1, 17, 18, 19, 20, 21, 22, 23, 24, 25, 26, 27, 28] (by decide +kernel) (by decide +kernel)
set_option maxRecDepth 20000 in
theorem gX8_write_X8_writeNumber : GoodIn wsX8_write (wsV RX8 137 RX8 yX8_writeNumber wsX8_writeNumber) := goodIn_app (goodIn_of _ (by decide +kernel)) ggX8_write_X8_writeNumber
set_option maxRecDepth 20000 in
theorem ggX8_write_X8_owes : GoodIn wsX8_write wsX8_owes := goodIn_r _ [16, 2, 17, 18, 19, 20, 21, 22, 23, 24, 25, 26, 27, 28] (by decide +kernel) (by decide +kernel)
set_option maxRecDepth 20000 in
theorem gX8_write_X8_owes : GoodIn wsX8_write (wsV RX8 90 RX8 yX8_owes wsX8_owes) := goodIn_app (goodIn_of _ (by decide +kernel)) ggX8_write_X8_owes
theorem dX8_write_0 : decode cX8_write 0 = .ok (.aload_n 0, 1) := by decide +kernel
theorem dX8_write_1 : decode cX8_write 1 = .ok (.iconst 0, 1) := by decide +kernel
theorem dX8_write_2 : decode cX8_write 2 = .ok (.putfield 131, 3) := by decide +kernel
theorem dX8_write_5 : decode cX8_write 5 = .ok (.aload_n 0, 1) := by decide +kernel
theorem dX8_write_6 : decode cX8_write 6 = .ok (.bipush 99, 2) := by decide +kernel
theorem dX8_write_8 : decode cX8_write 8 = .ok (.invokevirtual 134, 3) := by decide +kernel
theorem dX8_write_11 : decode cX8_write 11 = .ok (.aload_n 0, 1) := by decide +kernel
theorem dX8_write_12 : decode cX8_write 12 = .ok (.aload_n 0, 1) := by decide +kernel
theorem dX8_write_13 : decode cX8_write 13 = .ok (.getfield 7, 3) := by decide +kernel
theorem dX8_write_16 : decode cX8_write 16 = .ok (.bipush 9, 2) := by decide +kernel
theorem dX8_write_18 : decode cX8_write 18 = .ok (.iaload, 1) := by decide +kernel
theorem dX8_write_19 : decode cX8_write 19 = .ok (.invokevirtual 137, 3) := by decide +kernel
theorem dX8_write_22 : decode cX8_write 22 = .ok (.aload_n 0, 1) := by decide +kernel
theorem dX8_write_23 : decode cX8_write 23 = .ok (.bipush 101, 2) := by decide +kernel
theorem dX8_write_25 : decode cX8_write 25 = .ok (.invokevirtual 134, 3) := by decide +kernel
theorem dX8_write_28 : decode cX8_write 28 = .ok (.aload_n 0, 1) := by decide +kernel
theorem dX8_write_29 : decode cX8_write 29 = .ok (.aload_n 0, 1) := by decide +kernel
theorem dX8_write_30 : decode cX8_write 30 = .ok (.getfield 7, 3) := by decide +kernel
theorem dX8_write_33 : decode cX8_write 33 = .ok (.bipush 10, 2) := by decide +kernel
theorem dX8_write_35 : decode cX8_write 35 = .ok (.iaload, 1) := by decide +kernel
theorem dX8_write_36 : decode cX8_write 36 = .ok (.invokevirtual 137, 3) := by decide +kernel
theorem dX8_write_39 : decode cX8_write 39 = .ok (.aload_n 0, 1) := by decide +kernel
theorem dX8_write_40 : decode cX8_write 40 = .ok (.bipush 108, 2) := by decide +kernel
theorem dX8_write_42 : decode cX8_write 42 = .ok (.invokevirtual 134, 3) := by decide +kernel
theorem dX8_write_45 : decode cX8_write 45 = .ok (.aload_n 0, 1) := by decide +kernel
theorem dX8_write_46 : decode cX8_write 46 = .ok (.aload_n 0, 1) := by decide +kernel
theorem dX8_write_47 : decode cX8_write 47 = .ok (.getfield 7, 3) := by decide +kernel
theorem dX8_write_50 : decode cX8_write 50 = .ok (.bipush 11, 2) := by decide +kernel
theorem dX8_write_52 : decode cX8_write 52 = .ok (.iaload, 1) := by decide +kernel
theorem dX8_write_53 : decode cX8_write 53 = .ok (.invokevirtual 137, 3) := by decide +kernel
theorem dX8_write_56 : decode cX8_write 56 = .ok (.aload_n 0, 1) := by decide +kernel
theorem dX8_write_57 : decode cX8_write 57 = .ok (.bipush 107, 2) := by decide +kernel
theorem dX8_write_59 : decode cX8_write 59 = .ok (.invokevirtual 134, 3) := by decide +kernel
theorem dX8_write_62 : decode cX8_write 62 = .ok (.aload_n 0, 1) := by decide +kernel
theorem dX8_write_63 : decode cX8_write 63 = .ok (.aload_n 0, 1) := by decide +kernel
theorem dX8_write_64 : decode cX8_write 64 = .ok (.getfield 7, 3) := by decide +kernel
theorem dX8_write_67 : decode cX8_write 67 = .ok (.bipush 12, 2) := by decide +kernel
theorem dX8_write_69 : decode cX8_write 69 = .ok (.iaload, 1) := by decide +kernel
theorem dX8_write_70 : decode cX8_write 70 = .ok (.invokevirtual 137, 3) := by decide +kernel
theorem dX8_write_73 : decode cX8_write 73 = .ok (.iconst 0, 1) := by decide +kernel
theorem dX8_write_74 : decode cX8_write 74 = .ok (.istore_n 1, 1) := by decide +kernel
theorem dX8_write_75 : decode cX8_write 75 = .ok (.iload_n 1, 1) := by decide +kernel
theorem dX8_write_76 : decode cX8_write 76 = .ok (.bipush 6, 2) := by decide +kernel
theorem dX8_write_78 : decode cX8_write 78 = .ok (.if_icmp .ge 43, 3) := by decide +kernel
theorem dX8_write_81 : decode cX8_write 81 = .ok (.aload_n 0, 1) := by decide +kernel
theorem dX8_write_82 : decode cX8_write 82 = .ok (.iload_n 1, 1) := by decide +kernel
theorem dX8_write_83 : decode cX8_write 83 = .ok (.invokevirtual 90, 3) := by decide +kernel
theorem dX8_write_86 : decode cX8_write 86 = .ok (.ifCond .le 29, 3) := by decide +kernel
theorem dX8_write_89 : decode cX8_write 89 = .ok (.aload_n 0, 1) := by decide +kernel
theorem dX8_write_90 : decode cX8_write 90 = .ok (.bipush 44, 2) := by decide +kernel
theorem dX8_write_92 : decode cX8_write 92 = .ok (.invokevirtual 134, 3) := by decide +kernel
theorem dX8_write_95 : decode cX8_write 95 = .ok (.aload_n 0, 1) := by decide +kernel
theorem dX8_write_96 : decode cX8_write 96 = .ok (.iload_n 1, 1) := by decide +kernel
theorem dX8_write_97 : decode cX8_write 97 = .ok (.invokevirtual 137, 3) := by decide +kernel
theorem dX8_write_100 : decode cX8_write 100 = .ok (.aload_n 0, 1) := by decide +kernel
theorem dX8_write_101 : decode cX8_write 101 = .ok (.bipush 58, 2) := by decide +kernel
theorem dX8_write_103 : decode cX8_write 103 = .ok (.invokevirtual 134, 3) := by decide +kernel
theorem dX8_write_106 : decode cX8_write 106 = .ok (.aload_n 0, 1) := by decide +kernel
theorem dX8_write_107 : decode cX8_write 107 = .ok (.aload_n 0, 1) := by decide +kernel
theorem dX8_write_108 : decode cX8_write 108 = .ok (.iload_n 1, 1) := by decide +kernel
theorem dX8_write_109 : decode cX8_write 109 = .ok (.invokevirtual 90, 3) := by decide +kernel
theorem dX8_write_112 : decode cX8_write 112 = .ok (.invokevirtual 137, 3) := by decide +kernel
theorem dX8_write_115 : decode cX8_write 115 = .ok (.iinc 1 1, 3) := by decide +kernel
theorem dX8_write_118 : decode cX8_write 118 = .ok (.goto (-43), 3) := by decide +kernel
theorem dX8_write_121 : decode cX8_write 121 = .ok (.aload_n 0, 1) := by decide +kernel
theorem dX8_write_122 : decode cX8_write 122 = .ok (.getfield 131, 3) := by decide +kernel
theorem dX8_write_125 : decode cX8_write 125 = .ok (.ireturn, 1) := by decide +kernel
set_option maxRecDepth 20000 in
theorem ggX8_of_X8_isSeat : GoodIn wsX8_of wsX8_isSeat := goodIn_r _ [5, 6, 7, 4, 8] (by decide +kernel) (by decide +kernel)
set_option maxRecDepth 20000 in
theorem gX8_of_X8_isSeat : GoodIn wsX8_of (va_wsS RX8 65 yX8_isSeat wsX8_isSeat) := goodIn_app (goodIn_of _ (by decide +kernel)) ggX8_of_X8_isSeat
set_option maxRecDepth 20000 in
theorem ggX8_of_X8_seat : GoodIn wsX8_of wsX8_seat := goodIn_r _ [12, 1, 13, 14, 15, 16, 17, 18, 19, 20, 21, 22, 23, 24] (by decide +kernel) (by decide +kernel)
set_option maxRecDepth 20000 in
theorem gX8_of_X8_seat : GoodIn wsX8_of (wsV RX8 61 RX8 yX8_seat wsX8_seat) := goodIn_app (goodIn_of _ (by decide +kernel)) ggX8_of_X8_seat
theorem dX8_of_0 : decode cX8_of 0 = .ok (.iload_n 1, 1) := by decide +kernel
theorem dX8_of_1 : decode cX8_of 1 = .ok (.invokestatic 65, 3) := by decide +kernel
theorem dX8_of_4 : decode cX8_of 4 = .ok (.ifCond .ne 5, 3) := by decide +kernel
theorem dX8_of_7 : decode cX8_of 7 = .ok (.iconst (-1), 1) := by decide +kernel
theorem dX8_of_8 : decode cX8_of 8 = .ok (.ireturn, 1) := by decide +kernel
theorem dX8_of_9 : decode cX8_of 9 = .ok (.iload_n 2, 1) := by decide +kernel
theorem dX8_of_10 : decode cX8_of 10 = .ok (.tableswitch 79 0 6 #[42, 42, 49, 70, 70, 70, 70], 42) := by decide +kernel
theorem dX8_of_52 : decode cX8_of 52 = .ok (.aload_n 0, 1) := by decide +kernel
theorem dX8_of_53 : decode cX8_of 53 = .ok (.iload_n 1, 1) := by decide +kernel
theorem dX8_of_54 : decode cX8_of 54 = .ok (.iload_n 2, 1) := by decide +kernel
theorem dX8_of_55 : decode cX8_of 55 = .ok (.invokevirtual 61, 3) := by decide +kernel
theorem dX8_of_58 : decode cX8_of 58 = .ok (.ireturn, 1) := by decide +kernel
theorem dX8_of_59 : decode cX8_of 59 = .ok (.aload_n 0, 1) := by decide +kernel
theorem dX8_of_60 : decode cX8_of 60 = .ok (.iload_n 1, 1) := by decide +kernel
theorem dX8_of_61 : decode cX8_of 61 = .ok (.iconst 2, 1) := by decide +kernel
theorem dX8_of_62 : decode cX8_of 62 = .ok (.invokevirtual 61, 3) := by decide +kernel
theorem dX8_of_65 : decode cX8_of 65 = .ok (.aload_n 0, 1) := by decide +kernel
theorem dX8_of_66 : decode cX8_of 66 = .ok (.getfield 7, 3) := by decide +kernel
theorem dX8_of_69 : decode cX8_of 69 = .ok (.iconst 4, 1) := by decide +kernel
theorem dX8_of_70 : decode cX8_of 70 = .ok (.iaload, 1) := by decide +kernel
theorem dX8_of_71 : decode cX8_of 71 = .ok (.if_icmp .lt 7, 3) := by decide +kernel
theorem dX8_of_74 : decode cX8_of 74 = .ok (.iconst 1, 1) := by decide +kernel
theorem dX8_of_75 : decode cX8_of 75 = .ok (.goto 4, 3) := by decide +kernel
theorem dX8_of_78 : decode cX8_of 78 = .ok (.iconst 0, 1) := by decide +kernel
theorem dX8_of_79 : decode cX8_of 79 = .ok (.ireturn, 1) := by decide +kernel
theorem dX8_of_80 : decode cX8_of 80 = .ok (.aload_n 0, 1) := by decide +kernel
theorem dX8_of_81 : decode cX8_of 81 = .ok (.iload_n 1, 1) := by decide +kernel
theorem dX8_of_82 : decode cX8_of 82 = .ok (.iload_n 2, 1) := by decide +kernel
theorem dX8_of_83 : decode cX8_of 83 = .ok (.iconst 1, 1) := by decide +kernel
theorem dX8_of_84 : decode cX8_of 84 = .ok (.isub, 1) := by decide +kernel
theorem dX8_of_85 : decode cX8_of 85 = .ok (.invokevirtual 61, 3) := by decide +kernel
theorem dX8_of_88 : decode cX8_of 88 = .ok (.ireturn, 1) := by decide +kernel
theorem dX8_of_89 : decode cX8_of 89 = .ok (.bipush (-2), 2) := by decide +kernel
theorem dX8_of_91 : decode cX8_of 91 = .ok (.ireturn, 1) := by decide +kernel
set_option maxRecDepth 20000 in
theorem ggX8_performer_X8_isPerformer : GoodIn wsX8_performer wsX8_isPerformer := goodIn_r _ [4, 5, 6, 3, 7] (by decide +kernel) (by decide +kernel)
set_option maxRecDepth 20000 in
theorem gX8_performer_X8_isPerformer : GoodIn wsX8_performer (va_wsS RX8 54 yX8_isPerformer wsX8_isPerformer) := goodIn_app (goodIn_of _ (by decide +kernel)) ggX8_performer_X8_isPerformer
set_option maxRecDepth 20000 in
theorem ggX8_performer_X8_within : GoodIn wsX8_performer wsX8_within := goodIn_r _ [7] (by decide +kernel) (by decide +kernel)
set_option maxRecDepth 20000 in
theorem gX8_performer_X8_within : GoodIn wsX8_performer (va_wsS RX8 32 yX8_within wsX8_within) := goodIn_app (goodIn_of _ (by decide +kernel)) ggX8_performer_X8_within
set_option maxRecDepth 20000 in
theorem ggX8_performer_X8_owes : GoodIn wsX8_performer wsX8_owes := goodIn_r _ [11, 12, 17, 18, 19, 20, 21, 22, 23, 24, 25, 26, 27, 28] (by decide +kernel) (by decide +kernel)
set_option maxRecDepth 20000 in
theorem gX8_performer_X8_owes : GoodIn wsX8_performer (wsV RX8 90 RX8 yX8_owes wsX8_owes) := goodIn_app (goodIn_of _ (by decide +kernel)) ggX8_performer_X8_owes
set_option maxRecDepth 20000 in
theorem ggX8_performer_X8_ofPerformer : GoodIn wsX8_performer wsX8_ofPerformer := goodIn_r _ [16, 12, 17, 18, 19, 20, 21, 22, 23, 24, 25, 26, 27, 28] (by decide +kernel) (by decide +kernel)
set_option maxRecDepth 20000 in
theorem gX8_performer_X8_ofPerformer : GoodIn wsX8_performer (wsV RX8 140 RX8 yX8_ofPerformer wsX8_ofPerformer) := goodIn_app (goodIn_of _ (by decide +kernel)) ggX8_performer_X8_ofPerformer
theorem dX8_performer_0 : decode cX8_performer 0 = .ok (.iload_n 1, 1) := by decide +kernel
theorem dX8_performer_1 : decode cX8_performer 1 = .ok (.invokestatic 54, 3) := by decide +kernel
theorem dX8_performer_4 : decode cX8_performer 4 = .ok (.ifCond .ne 5, 3) := by decide +kernel
theorem dX8_performer_7 : decode cX8_performer 7 = .ok (.iconst (-1), 1) := by decide +kernel
theorem dX8_performer_8 : decode cX8_performer 8 = .ok (.ireturn, 1) := by decide +kernel
theorem dX8_performer_9 : decode cX8_performer 9 = .ok (.iload_n 2, 1) := by decide +kernel
theorem dX8_performer_10 : decode cX8_performer 10 = .ok (.iconst 0, 1) := by decide +kernel
theorem dX8_performer_11 : decode cX8_performer 11 = .ok (.iconst 3, 1) := by decide +kernel
theorem dX8_performer_12 : decode cX8_performer 12 = .ok (.invokestatic 32, 3) := by decide +kernel
theorem dX8_performer_15 : decode cX8_performer 15 = .ok (.ifCond .ne 6, 3) := by decide +kernel
theorem dX8_performer_18 : decode cX8_performer 18 = .ok (.bipush (-2), 2) := by decide +kernel
theorem dX8_performer_20 : decode cX8_performer 20 = .ok (.ireturn, 1) := by decide +kernel
theorem dX8_performer_21 : decode cX8_performer 21 = .ok (.iload_n 2, 1) := by decide +kernel
theorem dX8_performer_22 : decode cX8_performer 22 = .ok (.ifCond .ne 11, 3) := by decide +kernel
theorem dX8_performer_25 : decode cX8_performer 25 = .ok (.aload_n 0, 1) := by decide +kernel
theorem dX8_performer_26 : decode cX8_performer 26 = .ok (.iload_n 1, 1) := by decide +kernel
theorem dX8_performer_27 : decode cX8_performer 27 = .ok (.invokevirtual 90, 3) := by decide +kernel
theorem dX8_performer_30 : decode cX8_performer 30 = .ok (.goto 11, 3) := by decide +kernel
theorem dX8_performer_33 : decode cX8_performer 33 = .ok (.aload_n 0, 1) := by decide +kernel
theorem dX8_performer_34 : decode cX8_performer 34 = .ok (.iload_n 1, 1) := by decide +kernel
theorem dX8_performer_35 : decode cX8_performer 35 = .ok (.iload_n 2, 1) := by decide +kernel
theorem dX8_performer_36 : decode cX8_performer 36 = .ok (.iconst 1, 1) := by decide +kernel
theorem dX8_performer_37 : decode cX8_performer 37 = .ok (.isub, 1) := by decide +kernel
theorem dX8_performer_38 : decode cX8_performer 38 = .ok (.invokevirtual 140, 3) := by decide +kernel
theorem dX8_performer_41 : decode cX8_performer 41 = .ok (.ireturn, 1) := by decide +kernel
set_option maxRecDepth 20000 in
theorem ggX8_owed_X8_within : GoodIn wsX8_owed wsX8_within := goodIn_r _ [5] (by decide +kernel) (by decide +kernel)
set_option maxRecDepth 20000 in
theorem gX8_owed_X8_within : GoodIn wsX8_owed (va_wsS RX8 32 yX8_within wsX8_within) := goodIn_app (goodIn_of _ (by decide +kernel)) ggX8_owed_X8_within
set_option maxRecDepth 20000 in
theorem ggX8_owed_X8_owedFor : GoodIn wsX8_owed wsX8_owedFor := goodIn_r _ [9, 1, 10, 11, 12, 13, 14, 15, 16, 17, 18, 19, 20, 21] (by decide +kernel) (by decide +kernel)
set_option maxRecDepth 20000 in
theorem gX8_owed_X8_owedFor : GoodIn wsX8_owed (wsV RX8 77 RX8 yX8_owedFor wsX8_owedFor) := goodIn_app (goodIn_of _ (by decide +kernel)) ggX8_owed_X8_owedFor
theorem dX8_owed_0 : decode cX8_owed 0 = .ok (.iload_n 1, 1) := by decide +kernel
theorem dX8_owed_1 : decode cX8_owed 1 = .ok (.iconst 0, 1) := by decide +kernel
theorem dX8_owed_2 : decode cX8_owed 2 = .ok (.aload_n 0, 1) := by decide +kernel
theorem dX8_owed_3 : decode cX8_owed 3 = .ok (.getfield 7, 3) := by decide +kernel
theorem dX8_owed_6 : decode cX8_owed 6 = .ok (.bipush 17, 2) := by decide +kernel
theorem dX8_owed_8 : decode cX8_owed 8 = .ok (.iaload, 1) := by decide +kernel
theorem dX8_owed_9 : decode cX8_owed 9 = .ok (.iconst 1, 1) := by decide +kernel
theorem dX8_owed_10 : decode cX8_owed 10 = .ok (.isub, 1) := by decide +kernel
theorem dX8_owed_11 : decode cX8_owed 11 = .ok (.invokestatic 32, 3) := by decide +kernel
theorem dX8_owed_14 : decode cX8_owed 14 = .ok (.ifCond .ne 5, 3) := by decide +kernel
theorem dX8_owed_17 : decode cX8_owed 17 = .ok (.iconst (-1), 1) := by decide +kernel
theorem dX8_owed_18 : decode cX8_owed 18 = .ok (.ireturn, 1) := by decide +kernel
theorem dX8_owed_19 : decode cX8_owed 19 = .ok (.iload_n 2, 1) := by decide +kernel
theorem dX8_owed_20 : decode cX8_owed 20 = .ok (.ifCond .ne 18, 3) := by decide +kernel
theorem dX8_owed_23 : decode cX8_owed 23 = .ok (.aload_n 0, 1) := by decide +kernel
theorem dX8_owed_24 : decode cX8_owed 24 = .ok (.getfield 7, 3) := by decide +kernel
theorem dX8_owed_27 : decode cX8_owed 27 = .ok (.sipush 218, 3) := by decide +kernel
theorem dX8_owed_30 : decode cX8_owed 30 = .ok (.iconst 2, 1) := by decide +kernel
theorem dX8_owed_31 : decode cX8_owed 31 = .ok (.iload_n 1, 1) := by decide +kernel
theorem dX8_owed_32 : decode cX8_owed 32 = .ok (.imul, 1) := by decide +kernel
theorem dX8_owed_33 : decode cX8_owed 33 = .ok (.iadd, 1) := by decide +kernel
theorem dX8_owed_34 : decode cX8_owed 34 = .ok (.iaload, 1) := by decide +kernel
theorem dX8_owed_35 : decode cX8_owed 35 = .ok (.goto 18, 3) := by decide +kernel
theorem dX8_owed_38 : decode cX8_owed 38 = .ok (.iload_n 2, 1) := by decide +kernel
theorem dX8_owed_39 : decode cX8_owed 39 = .ok (.iconst 1, 1) := by decide +kernel
theorem dX8_owed_40 : decode cX8_owed 40 = .ok (.if_icmp .ne 11, 3) := by decide +kernel
theorem dX8_owed_43 : decode cX8_owed 43 = .ok (.aload_n 0, 1) := by decide +kernel
theorem dX8_owed_44 : decode cX8_owed 44 = .ok (.iload_n 1, 1) := by decide +kernel
theorem dX8_owed_45 : decode cX8_owed 45 = .ok (.invokevirtual 77, 3) := by decide +kernel
theorem dX8_owed_48 : decode cX8_owed 48 = .ok (.goto 5, 3) := by decide +kernel
theorem dX8_owed_51 : decode cX8_owed 51 = .ok (.bipush (-2), 2) := by decide +kernel
theorem dX8_owed_53 : decode cX8_owed 53 = .ok (.ireturn, 1) := by decide +kernel
set_option maxRecDepth 20000 in
theorem ggX8_clapper_X8_within : GoodIn wsX8_clapper wsX8_within := goodIn_r _ [5] (by decide +kernel) (by decide +kernel)
set_option maxRecDepth 20000 in
theorem gX8_clapper_X8_within : GoodIn wsX8_clapper (va_wsS RX8 32 yX8_within wsX8_within) := goodIn_app (goodIn_of _ (by decide +kernel)) ggX8_clapper_X8_within
theorem dX8_clapper_0 : decode cX8_clapper 0 = .ok (.iload_n 1, 1) := by decide +kernel
theorem dX8_clapper_1 : decode cX8_clapper 1 = .ok (.iconst 0, 1) := by decide +kernel
theorem dX8_clapper_2 : decode cX8_clapper 2 = .ok (.aload_n 0, 1) := by decide +kernel
theorem dX8_clapper_3 : decode cX8_clapper 3 = .ok (.getfield 7, 3) := by decide +kernel
theorem dX8_clapper_6 : decode cX8_clapper 6 = .ok (.bipush 18, 2) := by decide +kernel
theorem dX8_clapper_8 : decode cX8_clapper 8 = .ok (.iaload, 1) := by decide +kernel
theorem dX8_clapper_9 : decode cX8_clapper 9 = .ok (.iconst 1, 1) := by decide +kernel
theorem dX8_clapper_10 : decode cX8_clapper 10 = .ok (.isub, 1) := by decide +kernel
theorem dX8_clapper_11 : decode cX8_clapper 11 = .ok (.invokestatic 32, 3) := by decide +kernel
theorem dX8_clapper_14 : decode cX8_clapper 14 = .ok (.ifCond .eq 16, 3) := by decide +kernel
theorem dX8_clapper_17 : decode cX8_clapper 17 = .ok (.aload_n 0, 1) := by decide +kernel
theorem dX8_clapper_18 : decode cX8_clapper 18 = .ok (.getfield 7, 3) := by decide +kernel
theorem dX8_clapper_21 : decode cX8_clapper 21 = .ok (.sipush 234, 3) := by decide +kernel
theorem dX8_clapper_24 : decode cX8_clapper 24 = .ok (.iload_n 1, 1) := by decide +kernel
theorem dX8_clapper_25 : decode cX8_clapper 25 = .ok (.iadd, 1) := by decide +kernel
theorem dX8_clapper_26 : decode cX8_clapper 26 = .ok (.iaload, 1) := by decide +kernel
theorem dX8_clapper_27 : decode cX8_clapper 27 = .ok (.goto 4, 3) := by decide +kernel
theorem dX8_clapper_30 : decode cX8_clapper 30 = .ok (.iconst (-1), 1) := by decide +kernel
theorem dX8_clapper_31 : decode cX8_clapper 31 = .ok (.ireturn, 1) := by decide +kernel
set_option maxRecDepth 20000 in
theorem ggX8_record_X8_within : GoodIn wsX8_record wsX8_within := goodIn_r _ [5] (by decide +kernel) (by decide +kernel)
set_option maxRecDepth 20000 in
theorem gX8_record_X8_within : GoodIn wsX8_record (va_wsS RX8 32 yX8_within wsX8_within) := goodIn_app (goodIn_of _ (by decide +kernel)) ggX8_record_X8_within
theorem dX8_record_0 : decode cX8_record 0 = .ok (.iload_n 1, 1) := by decide +kernel
theorem dX8_record_1 : decode cX8_record 1 = .ok (.iconst 0, 1) := by decide +kernel
theorem dX8_record_2 : decode cX8_record 2 = .ok (.aload_n 0, 1) := by decide +kernel
theorem dX8_record_3 : decode cX8_record 3 = .ok (.getfield 7, 3) := by decide +kernel
theorem dX8_record_6 : decode cX8_record 6 = .ok (.bipush 19, 2) := by decide +kernel
theorem dX8_record_8 : decode cX8_record 8 = .ok (.iaload, 1) := by decide +kernel
theorem dX8_record_9 : decode cX8_record 9 = .ok (.iconst 1, 1) := by decide +kernel
theorem dX8_record_10 : decode cX8_record 10 = .ok (.isub, 1) := by decide +kernel
theorem dX8_record_11 : decode cX8_record 11 = .ok (.invokestatic 32, 3) := by decide +kernel
theorem dX8_record_14 : decode cX8_record 14 = .ok (.ifCond .ne 5, 3) := by decide +kernel
theorem dX8_record_17 : decode cX8_record 17 = .ok (.iconst (-1), 1) := by decide +kernel
theorem dX8_record_18 : decode cX8_record 18 = .ok (.ireturn, 1) := by decide +kernel
theorem dX8_record_19 : decode cX8_record 19 = .ok (.iload_n 2, 1) := by decide +kernel
theorem dX8_record_20 : decode cX8_record 20 = .ok (.iconst 0, 1) := by decide +kernel
theorem dX8_record_21 : decode cX8_record 21 = .ok (.iconst 3, 1) := by decide +kernel
theorem dX8_record_22 : decode cX8_record 22 = .ok (.invokestatic 32, 3) := by decide +kernel
theorem dX8_record_25 : decode cX8_record 25 = .ok (.ifCond .eq 20, 3) := by decide +kernel
theorem dX8_record_28 : decode cX8_record 28 = .ok (.aload_n 0, 1) := by decide +kernel
theorem dX8_record_29 : decode cX8_record 29 = .ok (.getfield 7, 3) := by decide +kernel
theorem dX8_record_32 : decode cX8_record 32 = .ok (.sipush 264, 3) := by decide +kernel
theorem dX8_record_35 : decode cX8_record 35 = .ok (.iconst 4, 1) := by decide +kernel
theorem dX8_record_36 : decode cX8_record 36 = .ok (.iload_n 1, 1) := by decide +kernel
theorem dX8_record_37 : decode cX8_record 37 = .ok (.imul, 1) := by decide +kernel
theorem dX8_record_38 : decode cX8_record 38 = .ok (.iadd, 1) := by decide +kernel
theorem dX8_record_39 : decode cX8_record 39 = .ok (.iload_n 2, 1) := by decide +kernel
theorem dX8_record_40 : decode cX8_record 40 = .ok (.iadd, 1) := by decide +kernel
theorem dX8_record_41 : decode cX8_record 41 = .ok (.iaload, 1) := by decide +kernel
theorem dX8_record_42 : decode cX8_record 42 = .ok (.goto 5, 3) := by decide +kernel
theorem dX8_record_45 : decode cX8_record 45 = .ok (.bipush (-2), 2) := by decide +kernel
theorem dX8_record_47 : decode cX8_record 47 = .ok (.ireturn, 1) := by decide +kernel
set_option maxRecDepth 20000 in
theorem ggX8_sign_X8_within : GoodIn wsX8_sign wsX8_within := goodIn_r _ [6] (by decide +kernel) (by decide +kernel)
set_option maxRecDepth 20000 in
theorem gX8_sign_X8_within : GoodIn wsX8_sign (va_wsS RX8 32 yX8_within wsX8_within) := goodIn_app (goodIn_of _ (by decide +kernel)) ggX8_sign_X8_within
theorem dX8_sign_0 : decode cX8_sign 0 = .ok (.iload_n 1, 1) := by decide +kernel
theorem dX8_sign_1 : decode cX8_sign 1 = .ok (.iconst 0, 1) := by decide +kernel
theorem dX8_sign_2 : decode cX8_sign 2 = .ok (.aload_n 0, 1) := by decide +kernel
theorem dX8_sign_3 : decode cX8_sign 3 = .ok (.getfield 131, 3) := by decide +kernel
theorem dX8_sign_6 : decode cX8_sign 6 = .ok (.iconst 1, 1) := by decide +kernel
theorem dX8_sign_7 : decode cX8_sign 7 = .ok (.isub, 1) := by decide +kernel
theorem dX8_sign_8 : decode cX8_sign 8 = .ok (.invokestatic 32, 3) := by decide +kernel
theorem dX8_sign_11 : decode cX8_sign 11 = .ok (.ifCond .eq 12, 3) := by decide +kernel
theorem dX8_sign_14 : decode cX8_sign 14 = .ok (.aload_n 0, 1) := by decide +kernel
theorem dX8_sign_15 : decode cX8_sign 15 = .ok (.getfield 25, 3) := by decide +kernel
theorem dX8_sign_18 : decode cX8_sign 18 = .ok (.iload_n 1, 1) := by decide +kernel
theorem dX8_sign_19 : decode cX8_sign 19 = .ok (.iaload, 1) := by decide +kernel
theorem dX8_sign_20 : decode cX8_sign 20 = .ok (.goto 4, 3) := by decide +kernel
theorem dX8_sign_23 : decode cX8_sign 23 = .ok (.iconst (-1), 1) := by decide +kernel
theorem dX8_sign_24 : decode cX8_sign 24 = .ok (.ireturn, 1) := by decide +kernel
set_option maxRecDepth 20000 in
theorem ggX8_soFar_X8_ofPerformer : GoodIn wsX8_soFar wsX8_ofPerformer := goodIn_r _ [5, 6, 7, 8, 9, 10, 11, 12, 13, 14, 15, 16, 17, 18] (by decide +kernel) (by decide +kernel)
set_option maxRecDepth 20000 in
theorem gX8_soFar_X8_ofPerformer : GoodIn wsX8_soFar (wsV RX8 140 RX8 yX8_ofPerformer wsX8_ofPerformer) := goodIn_app (goodIn_of _ (by decide +kernel)) ggX8_soFar_X8_ofPerformer
theorem dX8_soFar_0 : decode cX8_soFar 0 = .ok (.iconst 0, 1) := by decide +kernel
theorem dX8_soFar_1 : decode cX8_soFar 1 = .ok (.istore_n 2, 1) := by decide +kernel
theorem dX8_soFar_2 : decode cX8_soFar 2 = .ok (.iconst 0, 1) := by decide +kernel
theorem dX8_soFar_3 : decode cX8_soFar 3 = .ok (.istore_n 3, 1) := by decide +kernel
theorem dX8_soFar_4 : decode cX8_soFar 4 = .ok (.iload_n 3, 1) := by decide +kernel
theorem dX8_soFar_5 : decode cX8_soFar 5 = .ok (.bipush 6, 2) := by decide +kernel
theorem dX8_soFar_7 : decode cX8_soFar 7 = .ok (.if_icmp .ge 18, 3) := by decide +kernel
theorem dX8_soFar_10 : decode cX8_soFar 10 = .ok (.iload_n 2, 1) := by decide +kernel
theorem dX8_soFar_11 : decode cX8_soFar 11 = .ok (.aload_n 0, 1) := by decide +kernel
theorem dX8_soFar_12 : decode cX8_soFar 12 = .ok (.iload_n 3, 1) := by decide +kernel
theorem dX8_soFar_13 : decode cX8_soFar 13 = .ok (.iload_n 1, 1) := by decide +kernel
theorem dX8_soFar_14 : decode cX8_soFar 14 = .ok (.invokevirtual 140, 3) := by decide +kernel
theorem dX8_soFar_17 : decode cX8_soFar 17 = .ok (.iadd, 1) := by decide +kernel
theorem dX8_soFar_18 : decode cX8_soFar 18 = .ok (.istore_n 2, 1) := by decide +kernel
theorem dX8_soFar_19 : decode cX8_soFar 19 = .ok (.iinc 3 1, 3) := by decide +kernel
theorem dX8_soFar_22 : decode cX8_soFar 22 = .ok (.goto (-18), 3) := by decide +kernel
theorem dX8_soFar_25 : decode cX8_soFar 25 = .ok (.iload_n 2, 1) := by decide +kernel
theorem dX8_soFar_26 : decode cX8_soFar 26 = .ok (.ireturn, 1) := by decide +kernel
set_option maxRecDepth 20000 in
theorem ggX8_count_X8_within : GoodIn wsX8_count wsX8_within := goodIn_r _ [7] (by decide +kernel) (by decide +kernel)
set_option maxRecDepth 20000 in
theorem gX8_count_X8_within : GoodIn wsX8_count (va_wsS RX8 32 yX8_within wsX8_within) := goodIn_app (goodIn_of _ (by decide +kernel)) ggX8_count_X8_within
set_option maxRecDepth 20000 in
theorem ggX8_count_X8_soFar : GoodIn wsX8_count wsX8_soFar := goodIn_r _ [11, 12, 13, 14, 6, 15, 1, 24, 25, 26, 27, 28, 29, 30, 31, 32, 33, 34, 35] (by decide +kernel) (by decide +kernel)
set_option maxRecDepth 20000 in
theorem gX8_count_X8_soFar : GoodIn wsX8_count (wsV RX8 143 RX8 yX8_soFar wsX8_soFar) := goodIn_app (goodIn_of _ (by decide +kernel)) ggX8_count_X8_soFar
set_option maxRecDepth 20000 in
theorem ggX8_count_X8_those : GoodIn wsX8_count wsX8_those := goodIn_r _ [19, 20, 21, 22, 6, 23, 1, 24, 25, 26, 27, 28, 29, 30, 31, 32, 33, 34, 35] (by decide +kernel) (by decide +kernel)
set_option maxRecDepth 20000 in
theorem gX8_count_X8_those : GoodIn wsX8_count (wsV RX8 96 RX8 yX8_those wsX8_those) := goodIn_app (goodIn_of _ (by decide +kernel)) ggX8_count_X8_those
theorem dX8_count_0 : decode cX8_count 0 = .ok (.iload_n 1, 1) := by decide +kernel
theorem dX8_count_1 : decode cX8_count 1 = .ok (.bipush 13, 2) := by decide +kernel
theorem dX8_count_3 : decode cX8_count 3 = .ok (.bipush 18, 2) := by decide +kernel
theorem dX8_count_5 : decode cX8_count 5 = .ok (.invokestatic 32, 3) := by decide +kernel
theorem dX8_count_8 : decode cX8_count 8 = .ok (.ifCond .eq 13, 3) := by decide +kernel
theorem dX8_count_11 : decode cX8_count 11 = .ok (.aload_n 0, 1) := by decide +kernel
theorem dX8_count_12 : decode cX8_count 12 = .ok (.getfield 7, 3) := by decide +kernel
theorem dX8_count_15 : decode cX8_count 15 = .ok (.iload_n 1, 1) := by decide +kernel
theorem dX8_count_16 : decode cX8_count 16 = .ok (.bipush 13, 2) := by decide +kernel
theorem dX8_count_18 : decode cX8_count 18 = .ok (.isub, 1) := by decide +kernel
theorem dX8_count_19 : decode cX8_count 19 = .ok (.iaload, 1) := by decide +kernel
theorem dX8_count_20 : decode cX8_count 20 = .ok (.ireturn, 1) := by decide +kernel
theorem dX8_count_21 : decode cX8_count 21 = .ok (.iload_n 1, 1) := by decide +kernel
theorem dX8_count_22 : decode cX8_count 22 = .ok (.tableswitch 236 0 20 #[98, 98, 98, 98, 108, 116, 116, 124, 132, 164, 188, 195, 207, 236, 236, 236, 236, 236, 236, 226, 231], 98) := by decide +kernel
theorem dX8_count_120 : decode cX8_count 120 = .ok (.aload_n 0, 1) := by decide +kernel
theorem dX8_count_121 : decode cX8_count 121 = .ok (.getfield 7, 3) := by decide +kernel
theorem dX8_count_124 : decode cX8_count 124 = .ok (.bipush 6, 2) := by decide +kernel
theorem dX8_count_126 : decode cX8_count 126 = .ok (.iload_n 1, 1) := by decide +kernel
theorem dX8_count_127 : decode cX8_count 127 = .ok (.iadd, 1) := by decide +kernel
theorem dX8_count_128 : decode cX8_count 128 = .ok (.iaload, 1) := by decide +kernel
theorem dX8_count_129 : decode cX8_count 129 = .ok (.ireturn, 1) := by decide +kernel
theorem dX8_count_130 : decode cX8_count 130 = .ok (.aload_n 0, 1) := by decide +kernel
theorem dX8_count_131 : decode cX8_count 131 = .ok (.getfield 7, 3) := by decide +kernel
theorem dX8_count_134 : decode cX8_count 134 = .ok (.bipush 17, 2) := by decide +kernel
theorem dX8_count_136 : decode cX8_count 136 = .ok (.iaload, 1) := by decide +kernel
theorem dX8_count_137 : decode cX8_count 137 = .ok (.ireturn, 1) := by decide +kernel
theorem dX8_count_138 : decode cX8_count 138 = .ok (.aload_n 0, 1) := by decide +kernel
theorem dX8_count_139 : decode cX8_count 139 = .ok (.iload_n 1, 1) := by decide +kernel
theorem dX8_count_140 : decode cX8_count 140 = .ok (.iconst 5, 1) := by decide +kernel
theorem dX8_count_141 : decode cX8_count 141 = .ok (.isub, 1) := by decide +kernel
theorem dX8_count_142 : decode cX8_count 142 = .ok (.invokevirtual 143, 3) := by decide +kernel
theorem dX8_count_145 : decode cX8_count 145 = .ok (.ireturn, 1) := by decide +kernel
theorem dX8_count_146 : decode cX8_count 146 = .ok (.aload_n 0, 1) := by decide +kernel
theorem dX8_count_147 : decode cX8_count 147 = .ok (.getfield 7, 3) := by decide +kernel
theorem dX8_count_150 : decode cX8_count 150 = .ok (.bipush 12, 2) := by decide +kernel
theorem dX8_count_152 : decode cX8_count 152 = .ok (.iaload, 1) := by decide +kernel
theorem dX8_count_153 : decode cX8_count 153 = .ok (.ireturn, 1) := by decide +kernel
theorem dX8_count_154 : decode cX8_count 154 = .ok (.aload_n 0, 1) := by decide +kernel
theorem dX8_count_155 : decode cX8_count 155 = .ok (.getfield 7, 3) := by decide +kernel
theorem dX8_count_158 : decode cX8_count 158 = .ok (.bipush 13, 2) := by decide +kernel
theorem dX8_count_160 : decode cX8_count 160 = .ok (.iaload, 1) := by decide +kernel
theorem dX8_count_161 : decode cX8_count 161 = .ok (.iconst 1, 1) := by decide +kernel
theorem dX8_count_162 : decode cX8_count 162 = .ok (.if_icmp .ne 21, 3) := by decide +kernel
theorem dX8_count_165 : decode cX8_count 165 = .ok (.aload_n 0, 1) := by decide +kernel
theorem dX8_count_166 : decode cX8_count 166 = .ok (.getfield 7, 3) := by decide +kernel
theorem dX8_count_169 : decode cX8_count 169 = .ok (.bipush 7, 2) := by decide +kernel
theorem dX8_count_171 : decode cX8_count 171 = .ok (.iaload, 1) := by decide +kernel
theorem dX8_count_172 : decode cX8_count 172 = .ok (.aload_n 0, 1) := by decide +kernel
theorem dX8_count_173 : decode cX8_count 173 = .ok (.getfield 7, 3) := by decide +kernel
theorem dX8_count_176 : decode cX8_count 176 = .ok (.bipush 14, 2) := by decide +kernel
theorem dX8_count_178 : decode cX8_count 178 = .ok (.iaload, 1) := by decide +kernel
theorem dX8_count_179 : decode cX8_count 179 = .ok (.isub, 1) := by decide +kernel
theorem dX8_count_180 : decode cX8_count 180 = .ok (.goto 5, 3) := by decide +kernel
theorem dX8_count_183 : decode cX8_count 183 = .ok (.bipush (-6), 2) := by decide +kernel
theorem dX8_count_185 : decode cX8_count 185 = .ok (.ireturn, 1) := by decide +kernel
theorem dX8_count_186 : decode cX8_count 186 = .ok (.aload_n 0, 1) := by decide +kernel
theorem dX8_count_187 : decode cX8_count 187 = .ok (.getfield 7, 3) := by decide +kernel
theorem dX8_count_190 : decode cX8_count 190 = .ok (.bipush 13, 2) := by decide +kernel
theorem dX8_count_192 : decode cX8_count 192 = .ok (.iaload, 1) := by decide +kernel
theorem dX8_count_193 : decode cX8_count 193 = .ok (.iconst 1, 1) := by decide +kernel
theorem dX8_count_194 : decode cX8_count 194 = .ok (.if_icmp .ne 13, 3) := by decide +kernel
theorem dX8_count_197 : decode cX8_count 197 = .ok (.aload_n 0, 1) := by decide +kernel
theorem dX8_count_198 : decode cX8_count 198 = .ok (.getfield 7, 3) := by decide +kernel
theorem dX8_count_201 : decode cX8_count 201 = .ok (.bipush 15, 2) := by decide +kernel
theorem dX8_count_203 : decode cX8_count 203 = .ok (.iaload, 1) := by decide +kernel
theorem dX8_count_204 : decode cX8_count 204 = .ok (.goto 5, 3) := by decide +kernel
theorem dX8_count_207 : decode cX8_count 207 = .ok (.bipush (-6), 2) := by decide +kernel
theorem dX8_count_209 : decode cX8_count 209 = .ok (.ireturn, 1) := by decide +kernel
theorem dX8_count_210 : decode cX8_count 210 = .ok (.aload_n 0, 1) := by decide +kernel
theorem dX8_count_211 : decode cX8_count 211 = .ok (.iconst 1, 1) := by decide +kernel
theorem dX8_count_212 : decode cX8_count 212 = .ok (.iconst 0, 1) := by decide +kernel
theorem dX8_count_213 : decode cX8_count 213 = .ok (.invokevirtual 96, 3) := by decide +kernel
theorem dX8_count_216 : decode cX8_count 216 = .ok (.ireturn, 1) := by decide +kernel
theorem dX8_count_217 : decode cX8_count 217 = .ok (.aload_n 0, 1) := by decide +kernel
theorem dX8_count_218 : decode cX8_count 218 = .ok (.iconst 0, 1) := by decide +kernel
theorem dX8_count_219 : decode cX8_count 219 = .ok (.aload_n 0, 1) := by decide +kernel
theorem dX8_count_220 : decode cX8_count 220 = .ok (.getfield 7, 3) := by decide +kernel
theorem dX8_count_223 : decode cX8_count 223 = .ok (.iconst 4, 1) := by decide +kernel
theorem dX8_count_224 : decode cX8_count 224 = .ok (.iaload, 1) := by decide +kernel
theorem dX8_count_225 : decode cX8_count 225 = .ok (.invokevirtual 96, 3) := by decide +kernel
theorem dX8_count_228 : decode cX8_count 228 = .ok (.ireturn, 1) := by decide +kernel
theorem dX8_count_229 : decode cX8_count 229 = .ok (.aload_n 0, 1) := by decide +kernel
theorem dX8_count_230 : decode cX8_count 230 = .ok (.iconst 1, 1) := by decide +kernel
theorem dX8_count_231 : decode cX8_count 231 = .ok (.iconst 0, 1) := by decide +kernel
theorem dX8_count_232 : decode cX8_count 232 = .ok (.invokevirtual 96, 3) := by decide +kernel
theorem dX8_count_235 : decode cX8_count 235 = .ok (.aload_n 0, 1) := by decide +kernel
theorem dX8_count_236 : decode cX8_count 236 = .ok (.iconst 0, 1) := by decide +kernel
theorem dX8_count_237 : decode cX8_count 237 = .ok (.aload_n 0, 1) := by decide +kernel
theorem dX8_count_238 : decode cX8_count 238 = .ok (.getfield 7, 3) := by decide +kernel
theorem dX8_count_241 : decode cX8_count 241 = .ok (.iconst 4, 1) := by decide +kernel
theorem dX8_count_242 : decode cX8_count 242 = .ok (.iaload, 1) := by decide +kernel
theorem dX8_count_243 : decode cX8_count 243 = .ok (.invokevirtual 96, 3) := by decide +kernel
theorem dX8_count_246 : decode cX8_count 246 = .ok (.iand, 1) := by decide +kernel
theorem dX8_count_247 : decode cX8_count 247 = .ok (.ireturn, 1) := by decide +kernel
theorem dX8_count_248 : decode cX8_count 248 = .ok (.aload_n 0, 1) := by decide +kernel
theorem dX8_count_249 : decode cX8_count 249 = .ok (.getfield 131, 3) := by decide +kernel
theorem dX8_count_252 : decode cX8_count 252 = .ok (.ireturn, 1) := by decide +kernel
theorem dX8_count_253 : decode cX8_count 253 = .ok (.aload_n 0, 1) := by decide +kernel
theorem dX8_count_254 : decode cX8_count 254 = .ok (.getfield 36, 3) := by decide +kernel
theorem dX8_count_257 : decode cX8_count 257 = .ok (.ireturn, 1) := by decide +kernel
theorem dX8_count_258 : decode cX8_count 258 = .ok (.bipush (-2), 2) := by decide +kernel
theorem dX8_count_260 : decode cX8_count 260 = .ok (.ireturn, 1) := by decide +kernel
set_option maxRecDepth 20000 in
theorem ggX8_quietIn_X8_within : GoodIn wsX8_quietIn wsX8_within := goodIn_r _ [5] (by decide +kernel) (by decide +kernel)
set_option maxRecDepth 20000 in
theorem gX8_quietIn_X8_within : GoodIn wsX8_quietIn (va_wsS RX8 32 yX8_within wsX8_within) := goodIn_app (goodIn_of _ (by decide +kernel)) ggX8_quietIn_X8_within
set_option maxRecDepth 20000 in
theorem ggX8_quietIn_X8_decayed : GoodIn wsX8_quietIn wsX8_decayed := goodIn_r _ [9, 1, 10, 11, 12, 13, 14, 15, 16, 17, 18, 19, 20, 21] (by decide +kernel) (by decide +kernel)
set_option maxRecDepth 20000 in
theorem gX8_quietIn_X8_decayed : GoodIn wsX8_quietIn (wsV RX8 74 RX8 yX8_decayed wsX8_decayed) := goodIn_app (goodIn_of _ (by decide +kernel)) ggX8_quietIn_X8_decayed
theorem dX8_quietIn_0 : decode cX8_quietIn 0 = .ok (.iload_n 1, 1) := by decide +kernel
theorem dX8_quietIn_1 : decode cX8_quietIn 1 = .ok (.iconst 0, 1) := by decide +kernel
theorem dX8_quietIn_2 : decode cX8_quietIn 2 = .ok (.sipush 9999, 3) := by decide +kernel
theorem dX8_quietIn_5 : decode cX8_quietIn 5 = .ok (.invokestatic 32, 3) := by decide +kernel
theorem dX8_quietIn_8 : decode cX8_quietIn 8 = .ok (.ifCond .ne 6, 3) := by decide +kernel
theorem dX8_quietIn_11 : decode cX8_quietIn 11 = .ok (.bipush (-2), 2) := by decide +kernel
theorem dX8_quietIn_13 : decode cX8_quietIn 13 = .ok (.ireturn, 1) := by decide +kernel
theorem dX8_quietIn_14 : decode cX8_quietIn 14 = .ok (.iconst 0, 1) := by decide +kernel
theorem dX8_quietIn_15 : decode cX8_quietIn 15 = .ok (.istore_n 2, 1) := by decide +kernel
theorem dX8_quietIn_16 : decode cX8_quietIn 16 = .ok (.aload_n 0, 1) := by decide +kernel
theorem dX8_quietIn_17 : decode cX8_quietIn 17 = .ok (.getfield 7, 3) := by decide +kernel
theorem dX8_quietIn_20 : decode cX8_quietIn 20 = .ok (.bipush 6, 2) := by decide +kernel
theorem dX8_quietIn_22 : decode cX8_quietIn 22 = .ok (.iaload, 1) := by decide +kernel
theorem dX8_quietIn_23 : decode cX8_quietIn 23 = .ok (.istore_n 3, 1) := by decide +kernel
theorem dX8_quietIn_24 : decode cX8_quietIn 24 = .ok (.iload_n 3, 1) := by decide +kernel
theorem dX8_quietIn_25 : decode cX8_quietIn 25 = .ok (.iload_n 1, 1) := by decide +kernel
theorem dX8_quietIn_26 : decode cX8_quietIn 26 = .ok (.if_icmp .le 15, 3) := by decide +kernel
theorem dX8_quietIn_29 : decode cX8_quietIn 29 = .ok (.iinc 2 1, 3) := by decide +kernel
theorem dX8_quietIn_32 : decode cX8_quietIn 32 = .ok (.aload_n 0, 1) := by decide +kernel
theorem dX8_quietIn_33 : decode cX8_quietIn 33 = .ok (.iload_n 3, 1) := by decide +kernel
theorem dX8_quietIn_34 : decode cX8_quietIn 34 = .ok (.invokevirtual 74, 3) := by decide +kernel
theorem dX8_quietIn_37 : decode cX8_quietIn 37 = .ok (.istore_n 3, 1) := by decide +kernel
theorem dX8_quietIn_38 : decode cX8_quietIn 38 = .ok (.goto (-14), 3) := by decide +kernel
theorem dX8_quietIn_41 : decode cX8_quietIn 41 = .ok (.iload_n 2, 1) := by decide +kernel
theorem dX8_quietIn_42 : decode cX8_quietIn 42 = .ok (.ireturn, 1) := by decide +kernel
set_option maxRecDepth 20000 in
theorem ggX8_clapsFor_X8_isSeat : GoodIn wsX8_clapsFor wsX8_isSeat := goodIn_r _ [5, 6, 7, 4, 8] (by decide +kernel) (by decide +kernel)
set_option maxRecDepth 20000 in
theorem gX8_clapsFor_X8_isSeat : GoodIn wsX8_clapsFor (va_wsS RX8 65 yX8_isSeat wsX8_isSeat) := goodIn_app (goodIn_of _ (by decide +kernel)) ggX8_clapsFor_X8_isSeat
set_option maxRecDepth 20000 in
theorem ggX8_clapsFor_X8_seat : GoodIn wsX8_clapsFor wsX8_seat := goodIn_r _ [12, 1, 13, 14, 15, 16, 17, 18, 19, 20, 21, 22, 23, 24] (by decide +kernel) (by decide +kernel)
set_option maxRecDepth 20000 in
theorem gX8_clapsFor_X8_seat : GoodIn wsX8_clapsFor (wsV RX8 61 RX8 yX8_seat wsX8_seat) := goodIn_app (goodIn_of _ (by decide +kernel)) ggX8_clapsFor_X8_seat
theorem dX8_clapsFor_0 : decode cX8_clapsFor 0 = .ok (.iload_n 1, 1) := by decide +kernel
theorem dX8_clapsFor_1 : decode cX8_clapsFor 1 = .ok (.invokestatic 65, 3) := by decide +kernel
theorem dX8_clapsFor_4 : decode cX8_clapsFor 4 = .ok (.ifCond .ne 5, 3) := by decide +kernel
theorem dX8_clapsFor_7 : decode cX8_clapsFor 7 = .ok (.iconst (-1), 1) := by decide +kernel
theorem dX8_clapsFor_8 : decode cX8_clapsFor 8 = .ok (.ireturn, 1) := by decide +kernel
theorem dX8_clapsFor_9 : decode cX8_clapsFor 9 = .ok (.aload_n 0, 1) := by decide +kernel
theorem dX8_clapsFor_10 : decode cX8_clapsFor 10 = .ok (.getfield 7, 3) := by decide +kernel
theorem dX8_clapsFor_13 : decode cX8_clapsFor 13 = .ok (.bipush 13, 2) := by decide +kernel
theorem dX8_clapsFor_15 : decode cX8_clapsFor 15 = .ok (.iaload, 1) := by decide +kernel
theorem dX8_clapsFor_16 : decode cX8_clapsFor 16 = .ok (.ifCond .eq 14, 3) := by decide +kernel
theorem dX8_clapsFor_19 : decode cX8_clapsFor 19 = .ok (.aload_n 0, 1) := by decide +kernel
theorem dX8_clapsFor_20 : decode cX8_clapsFor 20 = .ok (.getfield 7, 3) := by decide +kernel
theorem dX8_clapsFor_23 : decode cX8_clapsFor 23 = .ok (.bipush 16, 2) := by decide +kernel
theorem dX8_clapsFor_25 : decode cX8_clapsFor 25 = .ok (.iaload, 1) := by decide +kernel
theorem dX8_clapsFor_26 : decode cX8_clapsFor 26 = .ok (.iconst 1, 1) := by decide +kernel
theorem dX8_clapsFor_27 : decode cX8_clapsFor 27 = .ok (.if_icmp .ne 6, 3) := by decide +kernel
theorem dX8_clapsFor_30 : decode cX8_clapsFor 30 = .ok (.bipush (-5), 2) := by decide +kernel
theorem dX8_clapsFor_32 : decode cX8_clapsFor 32 = .ok (.ireturn, 1) := by decide +kernel
theorem dX8_clapsFor_33 : decode cX8_clapsFor 33 = .ok (.bipush 10, 2) := by decide +kernel
theorem dX8_clapsFor_35 : decode cX8_clapsFor 35 = .ok (.aload_n 0, 1) := by decide +kernel
theorem dX8_clapsFor_36 : decode cX8_clapsFor 36 = .ok (.iload_n 1, 1) := by decide +kernel
theorem dX8_clapsFor_37 : decode cX8_clapsFor 37 = .ok (.iconst 0, 1) := by decide +kernel
theorem dX8_clapsFor_38 : decode cX8_clapsFor 38 = .ok (.invokevirtual 61, 3) := by decide +kernel
theorem dX8_clapsFor_41 : decode cX8_clapsFor 41 = .ok (.imul, 1) := by decide +kernel
theorem dX8_clapsFor_42 : decode cX8_clapsFor 42 = .ok (.istore_n 2, 1) := by decide +kernel
theorem dX8_clapsFor_43 : decode cX8_clapsFor 43 = .ok (.iconst 1, 1) := by decide +kernel
theorem dX8_clapsFor_44 : decode cX8_clapsFor 44 = .ok (.istore_n 3, 1) := by decide +kernel
theorem dX8_clapsFor_45 : decode cX8_clapsFor 45 = .ok (.aload_n 0, 1) := by decide +kernel
theorem dX8_clapsFor_46 : decode cX8_clapsFor 46 = .ok (.getfield 7, 3) := by decide +kernel
theorem dX8_clapsFor_49 : decode cX8_clapsFor 49 = .ok (.bipush 6, 2) := by decide +kernel
theorem dX8_clapsFor_51 : decode cX8_clapsFor 51 = .ok (.iaload, 1) := by decide +kernel
theorem dX8_clapsFor_52 : decode cX8_clapsFor 52 = .ok (.iload_n 3, 1) := by decide +kernel
theorem dX8_clapsFor_53 : decode cX8_clapsFor 53 = .ok (.iload_n 2, 1) := by decide +kernel
theorem dX8_clapsFor_54 : decode cX8_clapsFor 54 = .ok (.imul, 1) := by decide +kernel
theorem dX8_clapsFor_55 : decode cX8_clapsFor 55 = .ok (.iadd, 1) := by decide +kernel
theorem dX8_clapsFor_56 : decode cX8_clapsFor 56 = .ok (.aload_n 0, 1) := by decide +kernel
theorem dX8_clapsFor_57 : decode cX8_clapsFor 57 = .ok (.getfield 7, 3) := by decide +kernel
theorem dX8_clapsFor_60 : decode cX8_clapsFor 60 = .ok (.iconst 1, 1) := by decide +kernel
theorem dX8_clapsFor_61 : decode cX8_clapsFor 61 = .ok (.iaload, 1) := by decide +kernel
theorem dX8_clapsFor_62 : decode cX8_clapsFor 62 = .ok (.if_icmp .ge 9, 3) := by decide +kernel
theorem dX8_clapsFor_65 : decode cX8_clapsFor 65 = .ok (.iinc 3 1, 3) := by decide +kernel
theorem dX8_clapsFor_68 : decode cX8_clapsFor 68 = .ok (.goto (-23), 3) := by decide +kernel
theorem dX8_clapsFor_71 : decode cX8_clapsFor 71 = .ok (.iload_n 3, 1) := by decide +kernel
theorem dX8_clapsFor_72 : decode cX8_clapsFor 72 = .ok (.ireturn, 1) := by decide +kernel
set_option maxRecDepth 20000 in
theorem ggX8_lapsesIn_X8_isPerformer : GoodIn wsX8_lapsesIn wsX8_isPerformer := goodIn_r _ [5, 6, 7, 4, 8] (by decide +kernel) (by decide +kernel)
set_option maxRecDepth 20000 in
theorem gX8_lapsesIn_X8_isPerformer : GoodIn wsX8_lapsesIn (va_wsS RX8 54 yX8_isPerformer wsX8_isPerformer) := goodIn_app (goodIn_of _ (by decide +kernel)) ggX8_lapsesIn_X8_isPerformer
set_option maxRecDepth 20000 in
theorem ggX8_lapsesIn_X8_earliest : GoodIn wsX8_lapsesIn wsX8_earliest := goodIn_r _ [12, 1, 17, 18, 19, 20, 21, 22, 23, 24, 25, 26, 27, 28] (by decide +kernel) (by decide +kernel)
set_option maxRecDepth 20000 in
theorem gX8_lapsesIn_X8_earliest : GoodIn wsX8_lapsesIn (wsV RX8 87 RX8 yX8_earliest wsX8_earliest) := goodIn_app (goodIn_of _ (by decide +kernel)) ggX8_lapsesIn_X8_earliest
set_option maxRecDepth 20000 in
theorem ggX8_lapsesIn_X8_owedFor : GoodIn wsX8_lapsesIn wsX8_owedFor := goodIn_r _ [16, 1, 17, 18, 19, 20, 21, 22, 23, 24, 25, 26, 27, 28] (by decide +kernel) (by decide +kernel)
set_option maxRecDepth 20000 in
theorem gX8_lapsesIn_X8_owedFor : GoodIn wsX8_lapsesIn (wsV RX8 77 RX8 yX8_owedFor wsX8_owedFor) := goodIn_app (goodIn_of _ (by decide +kernel)) ggX8_lapsesIn_X8_owedFor
theorem dX8_lapsesIn_0 : decode cX8_lapsesIn 0 = .ok (.iload_n 1, 1) := by decide +kernel
theorem dX8_lapsesIn_1 : decode cX8_lapsesIn 1 = .ok (.invokestatic 54, 3) := by decide +kernel
theorem dX8_lapsesIn_4 : decode cX8_lapsesIn 4 = .ok (.ifCond .ne 5, 3) := by decide +kernel
theorem dX8_lapsesIn_7 : decode cX8_lapsesIn 7 = .ok (.iconst (-1), 1) := by decide +kernel
theorem dX8_lapsesIn_8 : decode cX8_lapsesIn 8 = .ok (.ireturn, 1) := by decide +kernel
theorem dX8_lapsesIn_9 : decode cX8_lapsesIn 9 = .ok (.aload_n 0, 1) := by decide +kernel
theorem dX8_lapsesIn_10 : decode cX8_lapsesIn 10 = .ok (.iload_n 1, 1) := by decide +kernel
theorem dX8_lapsesIn_11 : decode cX8_lapsesIn 11 = .ok (.invokevirtual 87, 3) := by decide +kernel
theorem dX8_lapsesIn_14 : decode cX8_lapsesIn 14 = .ok (.istore_n 2, 1) := by decide +kernel
theorem dX8_lapsesIn_15 : decode cX8_lapsesIn 15 = .ok (.iload_n 2, 1) := by decide +kernel
theorem dX8_lapsesIn_16 : decode cX8_lapsesIn 16 = .ok (.bipush (-6), 2) := by decide +kernel
theorem dX8_lapsesIn_18 : decode cX8_lapsesIn 18 = .ok (.if_icmp .ne 6, 3) := by decide +kernel
theorem dX8_lapsesIn_21 : decode cX8_lapsesIn 21 = .ok (.bipush (-6), 2) := by decide +kernel
theorem dX8_lapsesIn_23 : decode cX8_lapsesIn 23 = .ok (.ireturn, 1) := by decide +kernel
theorem dX8_lapsesIn_24 : decode cX8_lapsesIn 24 = .ok (.aload_n 0, 1) := by decide +kernel
theorem dX8_lapsesIn_25 : decode cX8_lapsesIn 25 = .ok (.getfield 7, 3) := by decide +kernel
theorem dX8_lapsesIn_28 : decode cX8_lapsesIn 28 = .ok (.iconst 2, 1) := by decide +kernel
theorem dX8_lapsesIn_29 : decode cX8_lapsesIn 29 = .ok (.iaload, 1) := by decide +kernel
theorem dX8_lapsesIn_30 : decode cX8_lapsesIn 30 = .ok (.aload_n 0, 1) := by decide +kernel
theorem dX8_lapsesIn_31 : decode cX8_lapsesIn 31 = .ok (.iload_n 2, 1) := by decide +kernel
theorem dX8_lapsesIn_32 : decode cX8_lapsesIn 32 = .ok (.invokevirtual 77, 3) := by decide +kernel
theorem dX8_lapsesIn_35 : decode cX8_lapsesIn 35 = .ok (.isub, 1) := by decide +kernel
theorem dX8_lapsesIn_36 : decode cX8_lapsesIn 36 = .ok (.istore_n 3, 1) := by decide +kernel
theorem dX8_lapsesIn_37 : decode cX8_lapsesIn 37 = .ok (.iload_n 3, 1) := by decide +kernel
theorem dX8_lapsesIn_38 : decode cX8_lapsesIn 38 = .ok (.iconst 1, 1) := by decide +kernel
theorem dX8_lapsesIn_39 : decode cX8_lapsesIn 39 = .ok (.if_icmp .ge 7, 3) := by decide +kernel
theorem dX8_lapsesIn_42 : decode cX8_lapsesIn 42 = .ok (.iconst 1, 1) := by decide +kernel
theorem dX8_lapsesIn_43 : decode cX8_lapsesIn 43 = .ok (.goto 4, 3) := by decide +kernel
theorem dX8_lapsesIn_46 : decode cX8_lapsesIn 46 = .ok (.iload_n 3, 1) := by decide +kernel
theorem dX8_lapsesIn_47 : decode cX8_lapsesIn 47 = .ok (.ireturn, 1) := by decide +kernel
theorem dX8_calls_0 : decode cX8_calls 0 = .ok (.iconst 0, 1) := by decide +kernel
theorem dX8_calls_1 : decode cX8_calls 1 = .ok (.istore_n 1, 1) := by decide +kernel
theorem dX8_calls_2 : decode cX8_calls 2 = .ok (.aload_n 0, 1) := by decide +kernel
theorem dX8_calls_3 : decode cX8_calls 3 = .ok (.getfield 7, 3) := by decide +kernel
theorem dX8_calls_6 : decode cX8_calls 6 = .ok (.bipush 6, 2) := by decide +kernel
theorem dX8_calls_8 : decode cX8_calls 8 = .ok (.iaload, 1) := by decide +kernel
theorem dX8_calls_9 : decode cX8_calls 9 = .ok (.istore_n 2, 1) := by decide +kernel
theorem dX8_calls_10 : decode cX8_calls 10 = .ok (.iload_n 2, 1) := by decide +kernel
theorem dX8_calls_11 : decode cX8_calls 11 = .ok (.aload_n 0, 1) := by decide +kernel
theorem dX8_calls_12 : decode cX8_calls 12 = .ok (.getfield 7, 3) := by decide +kernel
theorem dX8_calls_15 : decode cX8_calls 15 = .ok (.iconst 5, 1) := by decide +kernel
theorem dX8_calls_16 : decode cX8_calls 16 = .ok (.iaload, 1) := by decide +kernel
theorem dX8_calls_17 : decode cX8_calls 17 = .ok (.if_icmp .lt 13, 3) := by decide +kernel
theorem dX8_calls_20 : decode cX8_calls 20 = .ok (.iload_n 2, 1) := by decide +kernel
theorem dX8_calls_21 : decode cX8_calls 21 = .ok (.iconst 2, 1) := by decide +kernel
theorem dX8_calls_22 : decode cX8_calls 22 = .ok (.idiv, 1) := by decide +kernel
theorem dX8_calls_23 : decode cX8_calls 23 = .ok (.istore_n 2, 1) := by decide +kernel
theorem dX8_calls_24 : decode cX8_calls 24 = .ok (.iinc 1 1, 3) := by decide +kernel
theorem dX8_calls_27 : decode cX8_calls 27 = .ok (.goto (-17), 3) := by decide +kernel
theorem dX8_calls_30 : decode cX8_calls 30 = .ok (.iload_n 1, 1) := by decide +kernel
theorem dX8_calls_31 : decode cX8_calls 31 = .ok (.ireturn, 1) := by decide +kernel
set_option maxRecDepth 20000 in
theorem ggX8_ifFound_X8_within : GoodIn wsX8_ifFound wsX8_within := goodIn_r _ [4] (by decide +kernel) (by decide +kernel)
set_option maxRecDepth 20000 in
theorem gX8_ifFound_X8_within : GoodIn wsX8_ifFound (va_wsS RX8 32 yX8_within wsX8_within) := goodIn_app (goodIn_of _ (by decide +kernel)) ggX8_ifFound_X8_within
set_option maxRecDepth 20000 in
theorem ggX8_ifFound_X8_those : GoodIn wsX8_ifFound wsX8_those := goodIn_r _ [8, 9, 10, 11, 3, 12, 13, 14, 15, 16, 17, 18, 19, 20, 21, 22, 23, 24, 25] (by decide +kernel) (by decide +kernel)
set_option maxRecDepth 20000 in
theorem gX8_ifFound_X8_those : GoodIn wsX8_ifFound (wsV RX8 96 RX8 yX8_those wsX8_those) := goodIn_app (goodIn_of _ (by decide +kernel)) ggX8_ifFound_X8_those
theorem dX8_ifFound_0 : decode cX8_ifFound 0 = .ok (.iload_n 1, 1) := by decide +kernel
theorem dX8_ifFound_1 : decode cX8_ifFound 1 = .ok (.iconst 1, 1) := by decide +kernel
theorem dX8_ifFound_2 : decode cX8_ifFound 2 = .ok (.bipush 9, 2) := by decide +kernel
theorem dX8_ifFound_4 : decode cX8_ifFound 4 = .ok (.invokestatic 32, 3) := by decide +kernel
theorem dX8_ifFound_7 : decode cX8_ifFound 7 = .ok (.ifCond .eq 12, 3) := by decide +kernel
theorem dX8_ifFound_10 : decode cX8_ifFound 10 = .ok (.aload_n 0, 1) := by decide +kernel
theorem dX8_ifFound_11 : decode cX8_ifFound 11 = .ok (.iconst 0, 1) := by decide +kernel
theorem dX8_ifFound_12 : decode cX8_ifFound 12 = .ok (.iload_n 1, 1) := by decide +kernel
theorem dX8_ifFound_13 : decode cX8_ifFound 13 = .ok (.invokevirtual 96, 3) := by decide +kernel
theorem dX8_ifFound_16 : decode cX8_ifFound 16 = .ok (.goto 5, 3) := by decide +kernel
theorem dX8_ifFound_19 : decode cX8_ifFound 19 = .ok (.bipush (-2), 2) := by decide +kernel
theorem dX8_ifFound_21 : decode cX8_ifFound 21 = .ok (.ireturn, 1) := by decide +kernel
set_option maxRecDepth 20000 in
theorem ggX8_isCharacter_X8_within : GoodIn wsX8_isCharacter wsX8_within := goodIn_r _ [4] (by decide +kernel) (by decide +kernel)
set_option maxRecDepth 20000 in
theorem gX8_isCharacter_X8_within : GoodIn wsX8_isCharacter (va_wsS RX8 32 yX8_within wsX8_within) := goodIn_app (goodIn_of _ (by decide +kernel)) ggX8_isCharacter_X8_within
theorem dX8_isCharacter_0 : decode cX8_isCharacter 0 = .ok (.iload_n 0, 1) := by decide +kernel
theorem dX8_isCharacter_1 : decode cX8_isCharacter 1 = .ok (.bipush 33, 2) := by decide +kernel
theorem dX8_isCharacter_3 : decode cX8_isCharacter 3 = .ok (.bipush 126, 2) := by decide +kernel
theorem dX8_isCharacter_5 : decode cX8_isCharacter 5 = .ok (.invokestatic 32, 3) := by decide +kernel
theorem dX8_isCharacter_8 : decode cX8_isCharacter 8 = .ok (.ireturn, 1) := by decide +kernel
set_option maxRecDepth 20000 in
theorem ggX8_charactersIn_X8_isCharacter : GoodIn wsX8_charactersIn wsX8_isCharacter := goodIn_r _ [5, 6, 7, 4, 8] (by decide +kernel) (by decide +kernel)
set_option maxRecDepth 20000 in
theorem gX8_charactersIn_X8_isCharacter : GoodIn wsX8_charactersIn (va_wsS RX8 148 yX8_isCharacter wsX8_isCharacter) := goodIn_app (goodIn_of _ (by decide +kernel)) ggX8_charactersIn_X8_isCharacter
theorem dX8_charactersIn_0 : decode cX8_charactersIn 0 = .ok (.iconst 0, 1) := by decide +kernel
theorem dX8_charactersIn_1 : decode cX8_charactersIn 1 = .ok (.istore_n 2, 1) := by decide +kernel
theorem dX8_charactersIn_2 : decode cX8_charactersIn 2 = .ok (.lload_n 0, 1) := by decide +kernel
theorem dX8_charactersIn_3 : decode cX8_charactersIn 3 = .ok (.lstore_n 3, 1) := by decide +kernel
theorem dX8_charactersIn_4 : decode cX8_charactersIn 4 = .ok (.iload_n 2, 1) := by decide +kernel
theorem dX8_charactersIn_5 : decode cX8_charactersIn 5 = .ok (.bipush 8, 2) := by decide +kernel
theorem dX8_charactersIn_7 : decode cX8_charactersIn 7 = .ok (.if_icmp .ge 38, 3) := by decide +kernel
theorem dX8_charactersIn_10 : decode cX8_charactersIn 10 = .ok (.lload_n 3, 1) := by decide +kernel
theorem dX8_charactersIn_11 : decode cX8_charactersIn 11 = .ok (.ldc2_w 146, 3) := by decide +kernel
theorem dX8_charactersIn_14 : decode cX8_charactersIn 14 = .ok (.land, 1) := by decide +kernel
theorem dX8_charactersIn_15 : decode cX8_charactersIn 15 = .ok (.lconst 0, 1) := by decide +kernel
theorem dX8_charactersIn_16 : decode cX8_charactersIn 16 = .ok (.lcmp, 1) := by decide +kernel
theorem dX8_charactersIn_17 : decode cX8_charactersIn 17 = .ok (.ifCond .eq 28, 3) := by decide +kernel
theorem dX8_charactersIn_20 : decode cX8_charactersIn 20 = .ok (.lload_n 3, 1) := by decide +kernel
theorem dX8_charactersIn_21 : decode cX8_charactersIn 21 = .ok (.ldc2_w 146, 3) := by decide +kernel
theorem dX8_charactersIn_24 : decode cX8_charactersIn 24 = .ok (.land, 1) := by decide +kernel
theorem dX8_charactersIn_25 : decode cX8_charactersIn 25 = .ok (.l2i, 1) := by decide +kernel
theorem dX8_charactersIn_26 : decode cX8_charactersIn 26 = .ok (.invokestatic 148, 3) := by decide +kernel
theorem dX8_charactersIn_29 : decode cX8_charactersIn 29 = .ok (.ifCond .ne 5, 3) := by decide +kernel
theorem dX8_charactersIn_32 : decode cX8_charactersIn 32 = .ok (.iconst 0, 1) := by decide +kernel
theorem dX8_charactersIn_33 : decode cX8_charactersIn 33 = .ok (.ireturn, 1) := by decide +kernel
theorem dX8_charactersIn_34 : decode cX8_charactersIn 34 = .ok (.lload_n 3, 1) := by decide +kernel
theorem dX8_charactersIn_35 : decode cX8_charactersIn 35 = .ok (.bipush 8, 2) := by decide +kernel
theorem dX8_charactersIn_37 : decode cX8_charactersIn 37 = .ok (.lushr, 1) := by decide +kernel
theorem dX8_charactersIn_38 : decode cX8_charactersIn 38 = .ok (.lstore_n 3, 1) := by decide +kernel
theorem dX8_charactersIn_39 : decode cX8_charactersIn 39 = .ok (.iinc 2 1, 3) := by decide +kernel
theorem dX8_charactersIn_42 : decode cX8_charactersIn 42 = .ok (.goto (-38), 3) := by decide +kernel
theorem dX8_charactersIn_45 : decode cX8_charactersIn 45 = .ok (.lload_n 3, 1) := by decide +kernel
theorem dX8_charactersIn_46 : decode cX8_charactersIn 46 = .ok (.lconst 0, 1) := by decide +kernel
theorem dX8_charactersIn_47 : decode cX8_charactersIn 47 = .ok (.lcmp, 1) := by decide +kernel
theorem dX8_charactersIn_48 : decode cX8_charactersIn 48 = .ok (.ifCond .ne 7, 3) := by decide +kernel
theorem dX8_charactersIn_51 : decode cX8_charactersIn 51 = .ok (.iload_n 2, 1) := by decide +kernel
theorem dX8_charactersIn_52 : decode cX8_charactersIn 52 = .ok (.goto 4, 3) := by decide +kernel
theorem dX8_charactersIn_55 : decode cX8_charactersIn 55 = .ok (.iconst 0, 1) := by decide +kernel
theorem dX8_charactersIn_56 : decode cX8_charactersIn 56 = .ok (.ireturn, 1) := by decide +kernel
set_option maxRecDepth 20000 in
theorem ggX8_put_X8_charactersIn : GoodIn wsX8_put wsX8_charactersIn := goodIn_r _ [6, 2, 7, 8, 5, 9, 10, 11, 12] (by decide +kernel) (by decide +kernel)
set_option maxRecDepth 20000 in
theorem gX8_put_X8_charactersIn : GoodIn wsX8_put (va_wsS RX8 151 yX8_charactersIn wsX8_charactersIn) := goodIn_app (goodIn_of _ (by decide +kernel)) ggX8_put_X8_charactersIn
set_option maxRecDepth 20000 in
theorem ggX8_put_X8_writeSign : GoodIn wsX8_put wsX8_writeSign := goodIn_r _ [16, 17, 1, 18, 19, 20, 21, 22, 23, 24, 25, 26, 27, 28, 29] (by decide +kernel) (by decide +kernel)
set_option maxRecDepth 20000 in
theorem gX8_put_X8_writeSign : GoodIn wsX8_put (wsV RX8 134 RX8 yX8_writeSign wsX8_writeSign) := goodIn_app (goodIn_of _ (by decide +kernel)) ggX8_put_X8_writeSign
theorem dX8_put_0 : decode cX8_put 0 = .ok (.lload_n 1, 1) := by decide +kernel
theorem dX8_put_1 : decode cX8_put 1 = .ok (.invokestatic 151, 3) := by decide +kernel
theorem dX8_put_4 : decode cX8_put 4 = .ok (.istore_n 3, 1) := by decide +kernel
theorem dX8_put_5 : decode cX8_put 5 = .ok (.iload_n 3, 1) := by decide +kernel
theorem dX8_put_6 : decode cX8_put 6 = .ok (.ifCond .ne 6, 3) := by decide +kernel
theorem dX8_put_9 : decode cX8_put 9 = .ok (.bipush (-2), 2) := by decide +kernel
theorem dX8_put_11 : decode cX8_put 11 = .ok (.ireturn, 1) := by decide +kernel
theorem dX8_put_12 : decode cX8_put 12 = .ok (.aload_n 0, 1) := by decide +kernel
theorem dX8_put_13 : decode cX8_put 13 = .ok (.getfield 131, 3) := by decide +kernel
theorem dX8_put_16 : decode cX8_put 16 = .ok (.iload_n 3, 1) := by decide +kernel
theorem dX8_put_17 : decode cX8_put 17 = .ok (.iadd, 1) := by decide +kernel
theorem dX8_put_18 : decode cX8_put 18 = .ok (.bipush 80, 2) := by decide +kernel
theorem dX8_put_20 : decode cX8_put 20 = .ok (.if_icmp .le 6, 3) := by decide +kernel
theorem dX8_put_23 : decode cX8_put 23 = .ok (.bipush (-4), 2) := by decide +kernel
theorem dX8_put_25 : decode cX8_put 25 = .ok (.ireturn, 1) := by decide +kernel
theorem dX8_put_26 : decode cX8_put 26 = .ok (.iload_n 3, 1) := by decide +kernel
theorem dX8_put_27 : decode cX8_put 27 = .ok (.iconst 1, 1) := by decide +kernel
theorem dX8_put_28 : decode cX8_put 28 = .ok (.isub, 1) := by decide +kernel
theorem dX8_put_29 : decode cX8_put 29 = .ok (.istore 4, 2) := by decide +kernel
theorem dX8_put_31 : decode cX8_put 31 = .ok (.iload 4, 2) := by decide +kernel
theorem dX8_put_33 : decode cX8_put 33 = .ok (.ifCond .lt 25, 3) := by decide +kernel
theorem dX8_put_36 : decode cX8_put 36 = .ok (.aload_n 0, 1) := by decide +kernel
theorem dX8_put_37 : decode cX8_put 37 = .ok (.lload_n 1, 1) := by decide +kernel
theorem dX8_put_38 : decode cX8_put 38 = .ok (.bipush 8, 2) := by decide +kernel
theorem dX8_put_40 : decode cX8_put 40 = .ok (.iload 4, 2) := by decide +kernel
theorem dX8_put_42 : decode cX8_put 42 = .ok (.imul, 1) := by decide +kernel
theorem dX8_put_43 : decode cX8_put 43 = .ok (.lshr, 1) := by decide +kernel
theorem dX8_put_44 : decode cX8_put 44 = .ok (.ldc2_w 146, 3) := by decide +kernel
theorem dX8_put_47 : decode cX8_put 47 = .ok (.land, 1) := by decide +kernel
theorem dX8_put_48 : decode cX8_put 48 = .ok (.l2i, 1) := by decide +kernel
theorem dX8_put_49 : decode cX8_put 49 = .ok (.invokevirtual 134, 3) := by decide +kernel
theorem dX8_put_52 : decode cX8_put 52 = .ok (.iinc 4 (-1), 3) := by decide +kernel
theorem dX8_put_55 : decode cX8_put 55 = .ok (.goto (-24), 3) := by decide +kernel
theorem dX8_put_58 : decode cX8_put 58 = .ok (.aload_n 0, 1) := by decide +kernel
theorem dX8_put_59 : decode cX8_put 59 = .ok (.getfield 131, 3) := by decide +kernel
theorem dX8_put_62 : decode cX8_put 62 = .ok (.ireturn, 1) := by decide +kernel
theorem dX8_wipe_0 : decode cX8_wipe 0 = .ok (.aload_n 0, 1) := by decide +kernel
theorem dX8_wipe_1 : decode cX8_wipe 1 = .ok (.getfield 131, 3) := by decide +kernel
theorem dX8_wipe_4 : decode cX8_wipe 4 = .ok (.istore_n 1, 1) := by decide +kernel
theorem dX8_wipe_5 : decode cX8_wipe 5 = .ok (.aload_n 0, 1) := by decide +kernel
theorem dX8_wipe_6 : decode cX8_wipe 6 = .ok (.iconst 0, 1) := by decide +kernel
theorem dX8_wipe_7 : decode cX8_wipe 7 = .ok (.putfield 131, 3) := by decide +kernel
theorem dX8_wipe_10 : decode cX8_wipe 10 = .ok (.iload_n 1, 1) := by decide +kernel
theorem dX8_wipe_11 : decode cX8_wipe 11 = .ok (.ireturn, 1) := by decide +kernel
theorem dX8_code_0 : decode cX8_code 0 = .ok (.aload_n 0, 1) := by decide +kernel
theorem dX8_code_1 : decode cX8_code 1 = .ok (.getfield 155, 3) := by decide +kernel
theorem dX8_code_4 : decode cX8_code 4 = .ok (.aload_n 0, 1) := by decide +kernel
theorem dX8_code_5 : decode cX8_code 5 = .ok (.getfield 131, 3) := by decide +kernel
theorem dX8_code_8 : decode cX8_code 8 = .ok (.if_icmp .ge 15, 3) := by decide +kernel
theorem dX8_code_11 : decode cX8_code 11 = .ok (.aload_n 0, 1) := by decide +kernel
theorem dX8_code_12 : decode cX8_code 12 = .ok (.getfield 25, 3) := by decide +kernel
theorem dX8_code_15 : decode cX8_code 15 = .ok (.aload_n 0, 1) := by decide +kernel
theorem dX8_code_16 : decode cX8_code 16 = .ok (.getfield 155, 3) := by decide +kernel
theorem dX8_code_19 : decode cX8_code 19 = .ok (.iaload, 1) := by decide +kernel
theorem dX8_code_20 : decode cX8_code 20 = .ok (.goto 4, 3) := by decide +kernel
theorem dX8_code_23 : decode cX8_code 23 = .ok (.iconst 0, 1) := by decide +kernel
theorem dX8_code_24 : decode cX8_code 24 = .ok (.ireturn, 1) := by decide +kernel
set_option maxRecDepth 20000 in
theorem ggX8_takes_X8_code : GoodIn wsX8_takes wsX8_code := goodIn_r _ [6, 1, 7, 8, 9, 10, 11, 12, 13, 14, 15, 16, 17, 18, 19, 20] (by decide +kernel) (by decide +kernel)
set_option maxRecDepth 20000 in
theorem gX8_takes_X8_code : GoodIn wsX8_takes (wsV RX8 158 RX8 yX8_code wsX8_code) := goodIn_app (goodIn_of _ (by decide +kernel)) ggX8_takes_X8_code
theorem dX8_takes_0 : decode cX8_takes 0 = .ok (.aload_n 0, 1) := by decide +kernel
theorem dX8_takes_1 : decode cX8_takes 1 = .ok (.invokevirtual 158, 3) := by decide +kernel
theorem dX8_takes_4 : decode cX8_takes 4 = .ok (.iload_n 1, 1) := by decide +kernel
theorem dX8_takes_5 : decode cX8_takes 5 = .ok (.if_icmp .ne 7, 3) := by decide +kernel
theorem dX8_takes_8 : decode cX8_takes 8 = .ok (.iconst 1, 1) := by decide +kernel
theorem dX8_takes_9 : decode cX8_takes 9 = .ok (.goto 4, 3) := by decide +kernel
theorem dX8_takes_12 : decode cX8_takes 12 = .ok (.iconst 0, 1) := by decide +kernel
theorem dX8_takes_13 : decode cX8_takes 13 = .ok (.istore_n 2, 1) := by decide +kernel
theorem dX8_takes_14 : decode cX8_takes 14 = .ok (.aload_n 0, 1) := by decide +kernel
theorem dX8_takes_15 : decode cX8_takes 15 = .ok (.dup, 1) := by decide +kernel
theorem dX8_takes_16 : decode cX8_takes 16 = .ok (.getfield 155, 3) := by decide +kernel
theorem dX8_takes_19 : decode cX8_takes 19 = .ok (.iload_n 2, 1) := by decide +kernel
theorem dX8_takes_20 : decode cX8_takes 20 = .ok (.ifCond .eq 7, 3) := by decide +kernel
theorem dX8_takes_23 : decode cX8_takes 23 = .ok (.iconst 1, 1) := by decide +kernel
theorem dX8_takes_24 : decode cX8_takes 24 = .ok (.goto 4, 3) := by decide +kernel
theorem dX8_takes_27 : decode cX8_takes 27 = .ok (.iconst 0, 1) := by decide +kernel
theorem dX8_takes_28 : decode cX8_takes 28 = .ok (.iadd, 1) := by decide +kernel
theorem dX8_takes_29 : decode cX8_takes 29 = .ok (.putfield 155, 3) := by decide +kernel
theorem dX8_takes_32 : decode cX8_takes 32 = .ok (.iload_n 2, 1) := by decide +kernel
theorem dX8_takes_33 : decode cX8_takes 33 = .ok (.ireturn, 1) := by decide +kernel
set_option maxRecDepth 20000 in
theorem ggX8_takeDigit_X8_code : GoodIn wsX8_takeDigit wsX8_code := goodIn_r _ [6, 1, 7, 8, 12, 13, 14, 15, 16, 17, 18, 19, 20, 21, 22, 23] (by decide +kernel) (by decide +kernel)
set_option maxRecDepth 20000 in
theorem gX8_takeDigit_X8_code : GoodIn wsX8_takeDigit (wsV RX8 158 RX8 yX8_code wsX8_code) := goodIn_app (goodIn_of _ (by decide +kernel)) ggX8_takeDigit_X8_code
set_option maxRecDepth 20000 in
theorem ggX8_takeDigit_X8_within : GoodIn wsX8_takeDigit wsX8_within := goodIn_r _ [11] (by decide +kernel) (by decide +kernel)
set_option maxRecDepth 20000 in
theorem gX8_takeDigit_X8_within : GoodIn wsX8_takeDigit (va_wsS RX8 32 yX8_within wsX8_within) := goodIn_app (goodIn_of _ (by decide +kernel)) ggX8_takeDigit_X8_within
theorem dX8_takeDigit_0 : decode cX8_takeDigit 0 = .ok (.aload_n 0, 1) := by decide +kernel
theorem dX8_takeDigit_1 : decode cX8_takeDigit 1 = .ok (.invokevirtual 158, 3) := by decide +kernel
theorem dX8_takeDigit_4 : decode cX8_takeDigit 4 = .ok (.bipush 48, 2) := by decide +kernel
theorem dX8_takeDigit_6 : decode cX8_takeDigit 6 = .ok (.isub, 1) := by decide +kernel
theorem dX8_takeDigit_7 : decode cX8_takeDigit 7 = .ok (.istore_n 1, 1) := by decide +kernel
theorem dX8_takeDigit_8 : decode cX8_takeDigit 8 = .ok (.iload_n 1, 1) := by decide +kernel
theorem dX8_takeDigit_9 : decode cX8_takeDigit 9 = .ok (.iconst 0, 1) := by decide +kernel
theorem dX8_takeDigit_10 : decode cX8_takeDigit 10 = .ok (.bipush 9, 2) := by decide +kernel
theorem dX8_takeDigit_12 : decode cX8_takeDigit 12 = .ok (.invokestatic 32, 3) := by decide +kernel
theorem dX8_takeDigit_15 : decode cX8_takeDigit 15 = .ok (.istore_n 2, 1) := by decide +kernel
theorem dX8_takeDigit_16 : decode cX8_takeDigit 16 = .ok (.aload_n 0, 1) := by decide +kernel
theorem dX8_takeDigit_17 : decode cX8_takeDigit 17 = .ok (.dup, 1) := by decide +kernel
theorem dX8_takeDigit_18 : decode cX8_takeDigit 18 = .ok (.getfield 155, 3) := by decide +kernel
theorem dX8_takeDigit_21 : decode cX8_takeDigit 21 = .ok (.iload_n 2, 1) := by decide +kernel
theorem dX8_takeDigit_22 : decode cX8_takeDigit 22 = .ok (.ifCond .eq 7, 3) := by decide +kernel
theorem dX8_takeDigit_25 : decode cX8_takeDigit 25 = .ok (.iconst 1, 1) := by decide +kernel
theorem dX8_takeDigit_26 : decode cX8_takeDigit 26 = .ok (.goto 4, 3) := by decide +kernel
theorem dX8_takeDigit_29 : decode cX8_takeDigit 29 = .ok (.iconst 0, 1) := by decide +kernel
theorem dX8_takeDigit_30 : decode cX8_takeDigit 30 = .ok (.iadd, 1) := by decide +kernel
theorem dX8_takeDigit_31 : decode cX8_takeDigit 31 = .ok (.putfield 155, 3) := by decide +kernel
theorem dX8_takeDigit_34 : decode cX8_takeDigit 34 = .ok (.iload_n 2, 1) := by decide +kernel
theorem dX8_takeDigit_35 : decode cX8_takeDigit 35 = .ok (.ifCond .eq 7, 3) := by decide +kernel
theorem dX8_takeDigit_38 : decode cX8_takeDigit 38 = .ok (.iload_n 1, 1) := by decide +kernel
theorem dX8_takeDigit_39 : decode cX8_takeDigit 39 = .ok (.goto 5, 3) := by decide +kernel
theorem dX8_takeDigit_42 : decode cX8_takeDigit 42 = .ok (.bipush (-6), 2) := by decide +kernel
theorem dX8_takeDigit_44 : decode cX8_takeDigit 44 = .ok (.ireturn, 1) := by decide +kernel
set_option maxRecDepth 20000 in
theorem ggX8_readNumber_X8_takeDigit : GoodIn wsX8_readNumber wsX8_takeDigit := goodIn_r _ [5, 6, 7, 8, 9, 4, 10, 11, 12, 13, 14, 15, 16, 17, 18, 19, 20, 21, 22, 23, 24, 25, 26, 27] (by decide +kernel) (by decide +kernel)
set_option maxRecDepth 20000 in
theorem gX8_readNumber_X8_takeDigit : GoodIn wsX8_readNumber (wsV RX8 161 RX8 yX8_takeDigit wsX8_takeDigit) := goodIn_app (goodIn_of _ (by decide +kernel)) ggX8_readNumber_X8_takeDigit
set_option maxRecDepth 20000 in
theorem ggX8_readNumber_X8_code : GoodIn wsX8_readNumber wsX8_code := goodIn_r _ [10, 6, 11, 12, 16, 17, 18, 19, 20, 21, 22, 23, 24, 25, 26, 27] (by decide +kernel) (by decide +kernel)
set_option maxRecDepth 20000 in
theorem gX8_readNumber_X8_code : GoodIn wsX8_readNumber (wsV RX8 158 RX8 yX8_code wsX8_code) := goodIn_app (goodIn_of _ (by decide +kernel)) ggX8_readNumber_X8_code
set_option maxRecDepth 20000 in
theorem ggX8_readNumber_X8_within : GoodIn wsX8_readNumber wsX8_within := goodIn_r _ [15] (by decide +kernel) (by decide +kernel)
set_option maxRecDepth 20000 in
theorem gX8_readNumber_X8_within : GoodIn wsX8_readNumber (va_wsS RX8 32 yX8_within wsX8_within) := goodIn_app (goodIn_of _ (by decide +kernel)) ggX8_readNumber_X8_within
theorem dX8_readNumber_0 : decode cX8_readNumber 0 = .ok (.aload_n 0, 1) := by decide +kernel
theorem dX8_readNumber_1 : decode cX8_readNumber 1 = .ok (.invokevirtual 161, 3) := by decide +kernel
theorem dX8_readNumber_4 : decode cX8_readNumber 4 = .ok (.istore_n 1, 1) := by decide +kernel
theorem dX8_readNumber_5 : decode cX8_readNumber 5 = .ok (.iload_n 1, 1) := by decide +kernel
theorem dX8_readNumber_6 : decode cX8_readNumber 6 = .ok (.ifCond .le 29, 3) := by decide +kernel
theorem dX8_readNumber_9 : decode cX8_readNumber 9 = .ok (.aload_n 0, 1) := by decide +kernel
theorem dX8_readNumber_10 : decode cX8_readNumber 10 = .ok (.invokevirtual 158, 3) := by decide +kernel
theorem dX8_readNumber_13 : decode cX8_readNumber 13 = .ok (.bipush 48, 2) := by decide +kernel
theorem dX8_readNumber_15 : decode cX8_readNumber 15 = .ok (.bipush 57, 2) := by decide +kernel
theorem dX8_readNumber_17 : decode cX8_readNumber 17 = .ok (.invokestatic 32, 3) := by decide +kernel
theorem dX8_readNumber_20 : decode cX8_readNumber 20 = .ok (.ifCond .eq 15, 3) := by decide +kernel
theorem dX8_readNumber_23 : decode cX8_readNumber 23 = .ok (.bipush 10, 2) := by decide +kernel
theorem dX8_readNumber_25 : decode cX8_readNumber 25 = .ok (.iload_n 1, 1) := by decide +kernel
theorem dX8_readNumber_26 : decode cX8_readNumber 26 = .ok (.imul, 1) := by decide +kernel
theorem dX8_readNumber_27 : decode cX8_readNumber 27 = .ok (.aload_n 0, 1) := by decide +kernel
theorem dX8_readNumber_28 : decode cX8_readNumber 28 = .ok (.invokevirtual 161, 3) := by decide +kernel
theorem dX8_readNumber_31 : decode cX8_readNumber 31 = .ok (.iadd, 1) := by decide +kernel
theorem dX8_readNumber_32 : decode cX8_readNumber 32 = .ok (.goto 4, 3) := by decide +kernel
theorem dX8_readNumber_35 : decode cX8_readNumber 35 = .ok (.iload_n 1, 1) := by decide +kernel
theorem dX8_readNumber_36 : decode cX8_readNumber 36 = .ok (.ireturn, 1) := by decide +kernel
set_option maxRecDepth 20000 in
theorem ggX8_readsClaps_X8_readNumber : GoodIn wsX8_readsClaps wsX8_readNumber := goodIn_r _ [7, 8, 9, 10, 6, 11, 12, 13, 14, 15, 16, 17, 18, 19, 20, 21, 26, 27, 28, 29, 30, 31, 32, 33, 34, 35, 36, 37] (by decide +kernel) (by decide +kernel)
set_option maxRecDepth 20000 in
theorem gX8_readsClaps_X8_readNumber : GoodIn wsX8_readsClaps (wsV RX8 164 RX8 yX8_readNumber wsX8_readNumber) := goodIn_app (goodIn_of _ (by decide +kernel)) ggX8_readsClaps_X8_readNumber
set_option maxRecDepth 20000 in
theorem ggX8_readsClaps_X8_takes : GoodIn wsX8_readsClaps wsX8_takes := goodIn_r _ [25, 12, 13, 14, 15, 6, 16, 17, 18, 26, 27, 28, 29, 30, 31, 32, 33, 34, 35, 36, 37] (by decide +kernel) (by decide +kernel)
set_option maxRecDepth 20000 in
theorem gX8_readsClaps_X8_takes : GoodIn wsX8_readsClaps (wsV RX8 170 RX8 yX8_takes wsX8_takes) := goodIn_app (goodIn_of _ (by decide +kernel)) ggX8_readsClaps_X8_takes
theorem dX8_readsClaps_0 : decode cX8_readsClaps 0 = .ok (.aload_n 0, 1) := by decide +kernel
theorem dX8_readsClaps_1 : decode cX8_readsClaps 1 = .ok (.aload_n 0, 1) := by decide +kernel
theorem dX8_readsClaps_2 : decode cX8_readsClaps 2 = .ok (.invokevirtual 164, 3) := by decide +kernel
theorem dX8_readsClaps_5 : decode cX8_readsClaps 5 = .ok (.putfield 167, 3) := by decide +kernel
theorem dX8_readsClaps_8 : decode cX8_readsClaps 8 = .ok (.aload_n 0, 1) := by decide +kernel
theorem dX8_readsClaps_9 : decode cX8_readsClaps 9 = .ok (.getfield 167, 3) := by decide +kernel
theorem dX8_readsClaps_12 : decode cX8_readsClaps 12 = .ok (.bipush (-6), 2) := by decide +kernel
theorem dX8_readsClaps_14 : decode cX8_readsClaps 14 = .ok (.if_icmp .eq 20, 3) := by decide +kernel
theorem dX8_readsClaps_17 : decode cX8_readsClaps 17 = .ok (.aload_n 0, 1) := by decide +kernel
theorem dX8_readsClaps_18 : decode cX8_readsClaps 18 = .ok (.bipush 42, 2) := by decide +kernel
theorem dX8_readsClaps_20 : decode cX8_readsClaps 20 = .ok (.invokevirtual 170, 3) := by decide +kernel
theorem dX8_readsClaps_23 : decode cX8_readsClaps 23 = .ok (.ifCond .eq 11, 3) := by decide +kernel
theorem dX8_readsClaps_26 : decode cX8_readsClaps 26 = .ok (.aload_n 0, 1) := by decide +kernel
theorem dX8_readsClaps_27 : decode cX8_readsClaps 27 = .ok (.aload_n 0, 1) := by decide +kernel
theorem dX8_readsClaps_28 : decode cX8_readsClaps 28 = .ok (.invokevirtual 164, 3) := by decide +kernel
theorem dX8_readsClaps_31 : decode cX8_readsClaps 31 = .ok (.putfield 173, 3) := by decide +kernel
theorem dX8_readsClaps_34 : decode cX8_readsClaps 34 = .ok (.aload_n 0, 1) := by decide +kernel
theorem dX8_readsClaps_35 : decode cX8_readsClaps 35 = .ok (.getfield 167, 3) := by decide +kernel
theorem dX8_readsClaps_38 : decode cX8_readsClaps 38 = .ok (.bipush (-6), 2) := by decide +kernel
theorem dX8_readsClaps_40 : decode cX8_readsClaps 40 = .ok (.if_icmp .eq 16, 3) := by decide +kernel
theorem dX8_readsClaps_43 : decode cX8_readsClaps 43 = .ok (.aload_n 0, 1) := by decide +kernel
theorem dX8_readsClaps_44 : decode cX8_readsClaps 44 = .ok (.getfield 173, 3) := by decide +kernel
theorem dX8_readsClaps_47 : decode cX8_readsClaps 47 = .ok (.bipush (-6), 2) := by decide +kernel
theorem dX8_readsClaps_49 : decode cX8_readsClaps 49 = .ok (.if_icmp .eq 7, 3) := by decide +kernel
theorem dX8_readsClaps_52 : decode cX8_readsClaps 52 = .ok (.iconst 1, 1) := by decide +kernel
theorem dX8_readsClaps_53 : decode cX8_readsClaps 53 = .ok (.goto 4, 3) := by decide +kernel
theorem dX8_readsClaps_56 : decode cX8_readsClaps 56 = .ok (.iconst 0, 1) := by decide +kernel
theorem dX8_readsClaps_57 : decode cX8_readsClaps 57 = .ok (.ireturn, 1) := by decide +kernel
set_option maxRecDepth 20000 in
theorem ggX8_readsOrder_X8_code : GoodIn wsX8_readsOrder wsX8_code := goodIn_r _ [9, 3, 10, 11, 31, 32, 33, 34, 35, 36, 37, 38, 39, 40, 41, 42] (by decide +kernel) (by decide +kernel)
set_option maxRecDepth 20000 in
theorem gX8_readsOrder_X8_code : GoodIn wsX8_readsOrder (wsV RX8 158 RX8 yX8_code wsX8_code) := goodIn_app (goodIn_of _ (by decide +kernel)) ggX8_readsOrder_X8_code
set_option maxRecDepth 20000 in
theorem ggX8_readsOrder_X8_takeDigit : GoodIn wsX8_readsOrder wsX8_takeDigit := goodIn_r _ [15, 3, 5, 6, 7, 8, 9, 10, 11, 16, 17, 18, 31, 32, 33, 34, 35, 36, 37, 38, 39, 40, 41, 42] (by decide +kernel) (by decide +kernel)
set_option maxRecDepth 20000 in
theorem gX8_readsOrder_X8_takeDigit : GoodIn wsX8_readsOrder (wsV RX8 161 RX8 yX8_takeDigit wsX8_takeDigit) := goodIn_app (goodIn_of _ (by decide +kernel)) ggX8_readsOrder_X8_takeDigit
set_option maxRecDepth 20000 in
theorem ggX8_readsOrder_X8_readNumber : GoodIn wsX8_readsOrder wsX8_readNumber := goodIn_r _ [22, 12, 13, 14, 8, 15, 3, 5, 6, 7, 9, 10, 11, 16, 17, 18, 31, 32, 33, 34, 35, 36, 37, 38, 39, 40, 41, 42] (by decide +kernel) (by decide +kernel)
set_option maxRecDepth 20000 in
theorem gX8_readsOrder_X8_readNumber : GoodIn wsX8_readsOrder (wsV RX8 164 RX8 yX8_readNumber wsX8_readNumber) := goodIn_app (goodIn_of _ (by decide +kernel)) ggX8_readsOrder_X8_readNumber
set_option maxRecDepth 20000 in
theorem ggX8_readsOrder_X8_readsClaps : GoodIn wsX8_readsOrder wsX8_readsClaps := goodIn_r _ [26, 4, 2, 19, 20, 21, 8, 22, 12, 13, 14, 15, 3, 5, 6, 7, 9, 10, 11, 16, 17, 18, 27, 28, 29, 30, 31, 32, 33, 34, 35, 36, 37, 38, 39, 40, 41, 42] (by decide +kernel) (by decide +kernel)
set_option maxRecDepth 20000 in
theorem gX8_readsOrder_X8_readsClaps : GoodIn wsX8_readsOrder (wsV RX8 179 RX8 yX8_readsClaps wsX8_readsClaps) := goodIn_app (goodIn_of _ (by decide +kernel)) ggX8_readsOrder_X8_readsClaps
theorem dX8_readsOrder_0 : decode cX8_readsOrder 0 = .ok (.aload_n 0, 1) := by decide +kernel
theorem dX8_readsOrder_1 : decode cX8_readsOrder 1 = .ok (.aload_n 0, 1) := by decide +kernel
theorem dX8_readsOrder_2 : decode cX8_readsOrder 2 = .ok (.invokevirtual 158, 3) := by decide +kernel
theorem dX8_readsOrder_5 : decode cX8_readsOrder 5 = .ok (.putfield 176, 3) := by decide +kernel
theorem dX8_readsOrder_8 : decode cX8_readsOrder 8 = .ok (.aload_n 0, 1) := by decide +kernel
theorem dX8_readsOrder_9 : decode cX8_readsOrder 9 = .ok (.iconst 1, 1) := by decide +kernel
theorem dX8_readsOrder_10 : decode cX8_readsOrder 10 = .ok (.putfield 173, 3) := by decide +kernel
theorem dX8_readsOrder_13 : decode cX8_readsOrder 13 = .ok (.aload_n 0, 1) := by decide +kernel
theorem dX8_readsOrder_14 : decode cX8_readsOrder 14 = .ok (.getfield 176, 3) := by decide +kernel
theorem dX8_readsOrder_17 : decode cX8_readsOrder 17 = .ok (.tableswitch 192 99 119 #[165, 192, 99, 192, 192, 132, 192, 192, 180, 192, 192, 180, 192, 99, 192, 192, 192, 192, 192, 192, 132], 99) := by decide +kernel
theorem dX8_readsOrder_116 : decode cX8_readsOrder 116 = .ok (.aload_n 0, 1) := by decide +kernel
theorem dX8_readsOrder_117 : decode cX8_readsOrder 117 = .ok (.dup, 1) := by decide +kernel
theorem dX8_readsOrder_118 : decode cX8_readsOrder 118 = .ok (.getfield 155, 3) := by decide +kernel
theorem dX8_readsOrder_121 : decode cX8_readsOrder 121 = .ok (.iconst 1, 1) := by decide +kernel
theorem dX8_readsOrder_122 : decode cX8_readsOrder 122 = .ok (.iadd, 1) := by decide +kernel
theorem dX8_readsOrder_123 : decode cX8_readsOrder 123 = .ok (.putfield 155, 3) := by decide +kernel
theorem dX8_readsOrder_126 : decode cX8_readsOrder 126 = .ok (.aload_n 0, 1) := by decide +kernel
theorem dX8_readsOrder_127 : decode cX8_readsOrder 127 = .ok (.aload_n 0, 1) := by decide +kernel
theorem dX8_readsOrder_128 : decode cX8_readsOrder 128 = .ok (.invokevirtual 161, 3) := by decide +kernel
theorem dX8_readsOrder_131 : decode cX8_readsOrder 131 = .ok (.putfield 167, 3) := by decide +kernel
theorem dX8_readsOrder_134 : decode cX8_readsOrder 134 = .ok (.aload_n 0, 1) := by decide +kernel
theorem dX8_readsOrder_135 : decode cX8_readsOrder 135 = .ok (.getfield 167, 3) := by decide +kernel
theorem dX8_readsOrder_138 : decode cX8_readsOrder 138 = .ok (.bipush (-6), 2) := by decide +kernel
theorem dX8_readsOrder_140 : decode cX8_readsOrder 140 = .ok (.if_icmp .eq 7, 3) := by decide +kernel
theorem dX8_readsOrder_143 : decode cX8_readsOrder 143 = .ok (.iconst 1, 1) := by decide +kernel
theorem dX8_readsOrder_144 : decode cX8_readsOrder 144 = .ok (.goto 4, 3) := by decide +kernel
theorem dX8_readsOrder_147 : decode cX8_readsOrder 147 = .ok (.iconst 0, 1) := by decide +kernel
theorem dX8_readsOrder_148 : decode cX8_readsOrder 148 = .ok (.ireturn, 1) := by decide +kernel
theorem dX8_readsOrder_149 : decode cX8_readsOrder 149 = .ok (.aload_n 0, 1) := by decide +kernel
theorem dX8_readsOrder_150 : decode cX8_readsOrder 150 = .ok (.dup, 1) := by decide +kernel
theorem dX8_readsOrder_151 : decode cX8_readsOrder 151 = .ok (.getfield 155, 3) := by decide +kernel
theorem dX8_readsOrder_154 : decode cX8_readsOrder 154 = .ok (.iconst 1, 1) := by decide +kernel
theorem dX8_readsOrder_155 : decode cX8_readsOrder 155 = .ok (.iadd, 1) := by decide +kernel
theorem dX8_readsOrder_156 : decode cX8_readsOrder 156 = .ok (.putfield 155, 3) := by decide +kernel
theorem dX8_readsOrder_159 : decode cX8_readsOrder 159 = .ok (.aload_n 0, 1) := by decide +kernel
theorem dX8_readsOrder_160 : decode cX8_readsOrder 160 = .ok (.aload_n 0, 1) := by decide +kernel
theorem dX8_readsOrder_161 : decode cX8_readsOrder 161 = .ok (.invokevirtual 164, 3) := by decide +kernel
theorem dX8_readsOrder_164 : decode cX8_readsOrder 164 = .ok (.putfield 167, 3) := by decide +kernel
theorem dX8_readsOrder_167 : decode cX8_readsOrder 167 = .ok (.aload_n 0, 1) := by decide +kernel
theorem dX8_readsOrder_168 : decode cX8_readsOrder 168 = .ok (.getfield 167, 3) := by decide +kernel
theorem dX8_readsOrder_171 : decode cX8_readsOrder 171 = .ok (.bipush (-6), 2) := by decide +kernel
theorem dX8_readsOrder_173 : decode cX8_readsOrder 173 = .ok (.if_icmp .eq 7, 3) := by decide +kernel
theorem dX8_readsOrder_176 : decode cX8_readsOrder 176 = .ok (.iconst 1, 1) := by decide +kernel
theorem dX8_readsOrder_177 : decode cX8_readsOrder 177 = .ok (.goto 4, 3) := by decide +kernel
theorem dX8_readsOrder_180 : decode cX8_readsOrder 180 = .ok (.iconst 0, 1) := by decide +kernel
theorem dX8_readsOrder_181 : decode cX8_readsOrder 181 = .ok (.ireturn, 1) := by decide +kernel
theorem dX8_readsOrder_182 : decode cX8_readsOrder 182 = .ok (.aload_n 0, 1) := by decide +kernel
theorem dX8_readsOrder_183 : decode cX8_readsOrder 183 = .ok (.dup, 1) := by decide +kernel
theorem dX8_readsOrder_184 : decode cX8_readsOrder 184 = .ok (.getfield 155, 3) := by decide +kernel
theorem dX8_readsOrder_187 : decode cX8_readsOrder 187 = .ok (.iconst 1, 1) := by decide +kernel
theorem dX8_readsOrder_188 : decode cX8_readsOrder 188 = .ok (.iadd, 1) := by decide +kernel
theorem dX8_readsOrder_189 : decode cX8_readsOrder 189 = .ok (.putfield 155, 3) := by decide +kernel
theorem dX8_readsOrder_192 : decode cX8_readsOrder 192 = .ok (.aload_n 0, 1) := by decide +kernel
theorem dX8_readsOrder_193 : decode cX8_readsOrder 193 = .ok (.invokevirtual 179, 3) := by decide +kernel
theorem dX8_readsOrder_196 : decode cX8_readsOrder 196 = .ok (.ireturn, 1) := by decide +kernel
theorem dX8_readsOrder_197 : decode cX8_readsOrder 197 = .ok (.aload_n 0, 1) := by decide +kernel
theorem dX8_readsOrder_198 : decode cX8_readsOrder 198 = .ok (.dup, 1) := by decide +kernel
theorem dX8_readsOrder_199 : decode cX8_readsOrder 199 = .ok (.getfield 155, 3) := by decide +kernel
theorem dX8_readsOrder_202 : decode cX8_readsOrder 202 = .ok (.iconst 1, 1) := by decide +kernel
theorem dX8_readsOrder_203 : decode cX8_readsOrder 203 = .ok (.iadd, 1) := by decide +kernel
theorem dX8_readsOrder_204 : decode cX8_readsOrder 204 = .ok (.putfield 155, 3) := by decide +kernel
theorem dX8_readsOrder_207 : decode cX8_readsOrder 207 = .ok (.iconst 1, 1) := by decide +kernel
theorem dX8_readsOrder_208 : decode cX8_readsOrder 208 = .ok (.ireturn, 1) := by decide +kernel
theorem dX8_readsOrder_209 : decode cX8_readsOrder 209 = .ok (.iconst 0, 1) := by decide +kernel
theorem dX8_readsOrder_210 : decode cX8_readsOrder 210 = .ok (.ireturn, 1) := by decide +kernel
set_option maxRecDepth 20000 in
theorem ggX8_findFault_X8_readsOrder : GoodIn wsX8_findFault wsX8_readsOrder := goodIn_r _ [7, 8, 9, 1, 10, 11, 12, 13, 6, 14, 2, 15, 16, 17, 18, 19, 20, 21, 22, 23, 24, 25, 26, 27, 28, 29, 30, 31, 32, 33, 34, 35, 36, 37, 38, 39, 40, 41, 42, 43, 44, 45, 46] (by decide +kernel) (by decide +kernel)
set_option maxRecDepth 20000 in
theorem gX8_findFault_X8_readsOrder : GoodIn wsX8_findFault (wsV RX8 183 RX8 yX8_readsOrder wsX8_readsOrder) := goodIn_app (goodIn_of _ (by decide +kernel)) ggX8_findFault_X8_readsOrder
set_option maxRecDepth 20000 in
theorem ggX8_findFault_X8_takes : GoodIn wsX8_findFault wsX8_takes := goodIn_r _ [34, 1, 11, 12, 13, 6, 14, 2, 15, 35, 36, 37, 38, 39, 40, 41, 42, 43, 44, 45, 46] (by decide +kernel) (by decide +kernel)
set_option maxRecDepth 20000 in
theorem gX8_findFault_X8_takes : GoodIn wsX8_findFault (wsV RX8 170 RX8 yX8_takes wsX8_takes) := goodIn_app (goodIn_of _ (by decide +kernel)) ggX8_findFault_X8_takes
theorem dX8_findFault_0 : decode cX8_findFault 0 = .ok (.aload_n 0, 1) := by decide +kernel
theorem dX8_findFault_1 : decode cX8_findFault 1 = .ok (.iconst 0, 1) := by decide +kernel
theorem dX8_findFault_2 : decode cX8_findFault 2 = .ok (.putfield 155, 3) := by decide +kernel
theorem dX8_findFault_5 : decode cX8_findFault 5 = .ok (.aload_n 0, 1) := by decide +kernel
theorem dX8_findFault_6 : decode cX8_findFault 6 = .ok (.invokevirtual 183, 3) := by decide +kernel
theorem dX8_findFault_9 : decode cX8_findFault 9 = .ok (.ifCond .eq 31, 3) := by decide +kernel
theorem dX8_findFault_12 : decode cX8_findFault 12 = .ok (.aload_n 0, 1) := by decide +kernel
theorem dX8_findFault_13 : decode cX8_findFault 13 = .ok (.getfield 155, 3) := by decide +kernel
theorem dX8_findFault_16 : decode cX8_findFault 16 = .ok (.aload_n 0, 1) := by decide +kernel
theorem dX8_findFault_17 : decode cX8_findFault 17 = .ok (.getfield 131, 3) := by decide +kernel
theorem dX8_findFault_20 : decode cX8_findFault 20 = .ok (.if_icmp .ne 6, 3) := by decide +kernel
theorem dX8_findFault_23 : decode cX8_findFault 23 = .ok (.bipush (-6), 2) := by decide +kernel
theorem dX8_findFault_25 : decode cX8_findFault 25 = .ok (.ireturn, 1) := by decide +kernel
theorem dX8_findFault_26 : decode cX8_findFault 26 = .ok (.aload_n 0, 1) := by decide +kernel
theorem dX8_findFault_27 : decode cX8_findFault 27 = .ok (.bipush 59, 2) := by decide +kernel
theorem dX8_findFault_29 : decode cX8_findFault 29 = .ok (.invokevirtual 170, 3) := by decide +kernel
theorem dX8_findFault_32 : decode cX8_findFault 32 = .ok (.ifCond .ne (-27), 3) := by decide +kernel
theorem dX8_findFault_35 : decode cX8_findFault 35 = .ok (.aload_n 0, 1) := by decide +kernel
theorem dX8_findFault_36 : decode cX8_findFault 36 = .ok (.getfield 155, 3) := by decide +kernel
theorem dX8_findFault_39 : decode cX8_findFault 39 = .ok (.ireturn, 1) := by decide +kernel
theorem dX8_findFault_40 : decode cX8_findFault 40 = .ok (.aload_n 0, 1) := by decide +kernel
theorem dX8_findFault_41 : decode cX8_findFault 41 = .ok (.getfield 155, 3) := by decide +kernel
theorem dX8_findFault_44 : decode cX8_findFault 44 = .ok (.ireturn, 1) := by decide +kernel
set_option maxRecDepth 20000 in
theorem ggX8_fault_X8_findFault : GoodIn wsX8_fault wsX8_findFault := goodIn_r _ [5, 6, 7, 8, 9, 10, 4, 11, 12, 13, 14, 15, 16, 17, 18, 19, 20, 21, 22, 23, 24, 25, 26, 27, 28, 29, 30, 31, 32, 33, 34, 35, 36, 37, 38, 39, 40, 41, 42, 43, 44, 45, 46, 47, 48, 49, 50] (by decide +kernel) (by decide +kernel)
set_option maxRecDepth 20000 in
theorem gX8_fault_X8_findFault : GoodIn wsX8_fault (wsV RX8 186 RX8 yX8_findFault wsX8_findFault) := goodIn_app (goodIn_of _ (by decide +kernel)) ggX8_fault_X8_findFault
theorem dX8_fault_0 : decode cX8_fault 0 = .ok (.aload_n 0, 1) := by decide +kernel
theorem dX8_fault_1 : decode cX8_fault 1 = .ok (.invokevirtual 186, 3) := by decide +kernel
theorem dX8_fault_4 : decode cX8_fault 4 = .ok (.ireturn, 1) := by decide +kernel
set_option maxRecDepth 20000 in
theorem ggX8_doesOrder_X8_doEnds : GoodIn wsX8_doesOrder wsX8_doEnds := goodIn_r _ [7, 8, 9, 6, 10, 11, 12, 13, 14, 15, 16, 17, 18, 19, 20, 21, 22, 99, 100, 101, 102, 103, 104, 105, 106, 107, 108, 109, 110] (by decide +kernel) (by decide +kernel)
set_option maxRecDepth 20000 in
theorem gX8_doesOrder_X8_doEnds : GoodIn wsX8_doesOrder (wsV RX8 112 RX8 yX8_doEnds wsX8_doEnds) := goodIn_app (goodIn_of _ (by decide +kernel)) ggX8_doesOrder_X8_doEnds
set_option maxRecDepth 20000 in
theorem ggX8_doesOrder_X8_doClap : GoodIn wsX8_doesOrder wsX8_doClap := goodIn_r _ [26, 18, 27, 28, 6, 29, 11, 12, 13, 30, 31, 32, 33, 34, 35, 36, 37, 19, 20, 21, 22, 38, 39, 40, 41, 42, 43, 44, 45, 99, 100, 101, 102, 103, 104, 105, 106, 107, 108, 109, 110] (by decide +kernel) (by decide +kernel)
set_option maxRecDepth 20000 in
theorem gX8_doesOrder_X8_doClap : GoodIn wsX8_doesOrder (wsV RX8 115 RX8 yX8_doClap wsX8_doClap) := goodIn_app (goodIn_of _ (by decide +kernel)) ggX8_doesOrder_X8_doClap
set_option maxRecDepth 20000 in
theorem ggX8_doesOrder_X8_doPass : GoodIn wsX8_doesOrder wsX8_doPass := goodIn_r _ [49, 18, 50, 11, 12, 6, 13, 51, 52, 53, 54, 55, 56, 57, 58, 59, 60, 61, 62, 42, 43, 44, 45, 63, 64, 65, 66, 99, 100, 101, 102, 103, 104, 105, 106, 107, 108, 109, 110] (by decide +kernel) (by decide +kernel)
set_option maxRecDepth 20000 in
theorem gX8_doesOrder_X8_doPass : GoodIn wsX8_doesOrder (wsV RX8 118 RX8 yX8_doPass wsX8_doPass) := goodIn_app (goodIn_of _ (by decide +kernel)) ggX8_doesOrder_X8_doPass
set_option maxRecDepth 20000 in
theorem ggX8_doesOrder_X8_doPlay : GoodIn wsX8_doesOrder wsX8_doPlay := goodIn_r _ [70, 18, 8, 9, 6, 10, 11, 12, 13, 71, 72, 73, 74, 63, 64, 65, 66, 14, 15, 16, 17, 19, 20, 21, 22, 75, 76, 77, 78, 99, 100, 101, 102, 103, 104, 105, 106, 107, 108, 109, 110] (by decide +kernel) (by decide +kernel)
set_option maxRecDepth 20000 in
theorem gX8_doesOrder_X8_doPlay : GoodIn wsX8_doesOrder (wsV RX8 121 RX8 yX8_doPlay wsX8_doPlay) := goodIn_app (goodIn_of _ (by decide +kernel)) ggX8_doesOrder_X8_doPlay
set_option maxRecDepth 20000 in
theorem ggX8_doesOrder_X8_doCall : GoodIn wsX8_doesOrder wsX8_doCall := goodIn_r _ [82, 18, 99, 100, 101, 102, 103, 104, 105, 106, 107, 108, 109, 110] (by decide +kernel) (by decide +kernel)
set_option maxRecDepth 20000 in
theorem gX8_doesOrder_X8_doCall : GoodIn wsX8_doesOrder (wsV RX8 124 RX8 yX8_doCall wsX8_doCall) := goodIn_app (goodIn_of _ (by decide +kernel)) ggX8_doesOrder_X8_doCall
set_option maxRecDepth 20000 in
theorem ggX8_doesOrder_X8_doNight : GoodIn wsX8_doesOrder wsX8_doNight := goodIn_r _ [86, 18, 42, 43, 44, 6, 45, 87, 88, 89, 90, 19, 20, 21, 22, 99, 100, 101, 102, 103, 104, 105, 106, 107, 108, 109, 110] (by decide +kernel) (by decide +kernel)
set_option maxRecDepth 20000 in
theorem gX8_doesOrder_X8_doNight : GoodIn wsX8_doesOrder (wsV RX8 128 RX8 yX8_doNight wsX8_doNight) := goodIn_app (goodIn_of _ (by decide +kernel)) ggX8_doesOrder_X8_doNight
set_option maxRecDepth 20000 in
theorem ggX8_doesOrder_X8_doPay : GoodIn wsX8_doesOrder wsX8_doPay := goodIn_r _ [94, 27, 28, 6, 29, 11, 12, 13, 30, 31, 32, 33, 18, 19, 20, 21, 22, 95, 96, 97, 98, 99, 100, 101, 102, 103, 104, 105, 106, 107, 108, 109, 110] (by decide +kernel) (by decide +kernel)
set_option maxRecDepth 20000 in
theorem gX8_doesOrder_X8_doPay : GoodIn wsX8_doesOrder (wsV RX8 109 RX8 yX8_doPay wsX8_doPay) := goodIn_app (goodIn_of _ (by decide +kernel)) ggX8_doesOrder_X8_doPay
theorem dX8_doesOrder_0 : decode cX8_doesOrder 0 = .ok (.aload_n 0, 1) := by decide +kernel
theorem dX8_doesOrder_1 : decode cX8_doesOrder 1 = .ok (.getfield 176, 3) := by decide +kernel
theorem dX8_doesOrder_4 : decode cX8_doesOrder 4 = .ok (.lookupswitch 106 #[(99, 69), (101, 60), (107, 96), (110, 101), (112, 87), (119, 78)], 60) := by decide +kernel
theorem dX8_doesOrder_64 : decode cX8_doesOrder 64 = .ok (.aload_n 0, 1) := by decide +kernel
theorem dX8_doesOrder_65 : decode cX8_doesOrder 65 = .ok (.aload_n 0, 1) := by decide +kernel
theorem dX8_doesOrder_66 : decode cX8_doesOrder 66 = .ok (.getfield 167, 3) := by decide +kernel
theorem dX8_doesOrder_69 : decode cX8_doesOrder 69 = .ok (.invokevirtual 112, 3) := by decide +kernel
theorem dX8_doesOrder_72 : decode cX8_doesOrder 72 = .ok (.ireturn, 1) := by decide +kernel
theorem dX8_doesOrder_73 : decode cX8_doesOrder 73 = .ok (.aload_n 0, 1) := by decide +kernel
theorem dX8_doesOrder_74 : decode cX8_doesOrder 74 = .ok (.aload_n 0, 1) := by decide +kernel
theorem dX8_doesOrder_75 : decode cX8_doesOrder 75 = .ok (.getfield 167, 3) := by decide +kernel
theorem dX8_doesOrder_78 : decode cX8_doesOrder 78 = .ok (.invokevirtual 115, 3) := by decide +kernel
theorem dX8_doesOrder_81 : decode cX8_doesOrder 81 = .ok (.ireturn, 1) := by decide +kernel
theorem dX8_doesOrder_82 : decode cX8_doesOrder 82 = .ok (.aload_n 0, 1) := by decide +kernel
theorem dX8_doesOrder_83 : decode cX8_doesOrder 83 = .ok (.aload_n 0, 1) := by decide +kernel
theorem dX8_doesOrder_84 : decode cX8_doesOrder 84 = .ok (.getfield 167, 3) := by decide +kernel
theorem dX8_doesOrder_87 : decode cX8_doesOrder 87 = .ok (.invokevirtual 118, 3) := by decide +kernel
theorem dX8_doesOrder_90 : decode cX8_doesOrder 90 = .ok (.ireturn, 1) := by decide +kernel
theorem dX8_doesOrder_91 : decode cX8_doesOrder 91 = .ok (.aload_n 0, 1) := by decide +kernel
theorem dX8_doesOrder_92 : decode cX8_doesOrder 92 = .ok (.aload_n 0, 1) := by decide +kernel
theorem dX8_doesOrder_93 : decode cX8_doesOrder 93 = .ok (.getfield 167, 3) := by decide +kernel
theorem dX8_doesOrder_96 : decode cX8_doesOrder 96 = .ok (.invokevirtual 121, 3) := by decide +kernel
theorem dX8_doesOrder_99 : decode cX8_doesOrder 99 = .ok (.ireturn, 1) := by decide +kernel
theorem dX8_doesOrder_100 : decode cX8_doesOrder 100 = .ok (.aload_n 0, 1) := by decide +kernel
theorem dX8_doesOrder_101 : decode cX8_doesOrder 101 = .ok (.invokevirtual 124, 3) := by decide +kernel
theorem dX8_doesOrder_104 : decode cX8_doesOrder 104 = .ok (.ireturn, 1) := by decide +kernel
theorem dX8_doesOrder_105 : decode cX8_doesOrder 105 = .ok (.aload_n 0, 1) := by decide +kernel
theorem dX8_doesOrder_106 : decode cX8_doesOrder 106 = .ok (.invokevirtual 128, 3) := by decide +kernel
theorem dX8_doesOrder_109 : decode cX8_doesOrder 109 = .ok (.ireturn, 1) := by decide +kernel
theorem dX8_doesOrder_110 : decode cX8_doesOrder 110 = .ok (.aload_n 0, 1) := by decide +kernel
theorem dX8_doesOrder_111 : decode cX8_doesOrder 111 = .ok (.aload_n 0, 1) := by decide +kernel
theorem dX8_doesOrder_112 : decode cX8_doesOrder 112 = .ok (.getfield 167, 3) := by decide +kernel
theorem dX8_doesOrder_115 : decode cX8_doesOrder 115 = .ok (.invokevirtual 109, 3) := by decide +kernel
theorem dX8_doesOrder_118 : decode cX8_doesOrder 118 = .ok (.ireturn, 1) := by decide +kernel
set_option maxRecDepth 20000 in
theorem ggX8_carryOut_X8_findFault : GoodIn wsX8_carryOut wsX8_findFault := goodIn_r _ [8, 1, 2, 9, 10, 11, 7, 12, 13, 3, 14, 15, 16, 17, 18, 19, 20, 21, 22, 23, 24, 25, 26, 27, 28, 29, 30, 31, 32, 33, 34, 35, 36, 37, 38, 146, 147, 148, 149, 150, 151, 152, 153, 154, 155, 156, 157] (by decide +kernel) (by decide +kernel)
set_option maxRecDepth 20000 in
theorem gX8_carryOut_X8_findFault : GoodIn wsX8_carryOut (wsV RX8 186 RX8 yX8_findFault wsX8_findFault) := goodIn_app (goodIn_of _ (by decide +kernel)) ggX8_carryOut_X8_findFault
set_option maxRecDepth 20000 in
theorem ggX8_carryOut_X8_putAside : GoodIn wsX8_carryOut wsX8_putAside := goodIn_r _ [42, 43, 44, 146, 147, 148, 149, 150, 151, 152, 153, 154, 155, 156, 157] (by decide +kernel) (by decide +kernel)
set_option maxRecDepth 20000 in
theorem gX8_carryOut_X8_putAside : GoodIn wsX8_carryOut (wsV RX8 47 RX8 yX8_putAside wsX8_putAside) := goodIn_app (goodIn_of _ (by decide +kernel)) ggX8_carryOut_X8_putAside
set_option maxRecDepth 20000 in
theorem ggX8_carryOut_X8_push : GoodIn wsX8_carryOut wsX8_push := goodIn_r _ [48, 49, 50, 43, 146, 147, 148, 149, 150, 151, 152, 153, 154, 155, 156, 157] (by decide +kernel) (by decide +kernel)
set_option maxRecDepth 20000 in
theorem gX8_carryOut_X8_push : GoodIn wsX8_carryOut (wsV RX8 40 RX8 yX8_push wsX8_push) := goodIn_app (goodIn_of _ (by decide +kernel)) ggX8_carryOut_X8_push
set_option maxRecDepth 20000 in
theorem ggX8_carryOut_X8_readsOrder : GoodIn wsX8_carryOut wsX8_readsOrder := goodIn_r _ [12, 13, 3, 1, 14, 15, 16, 17, 7, 18, 2, 19, 20, 21, 22, 23, 24, 25, 26, 27, 28, 29, 30, 31, 32, 33, 34, 35, 36, 37, 38, 146, 147, 148, 149, 150, 151, 152, 153, 154, 155, 156, 157] (by decide +kernel) (by decide +kernel)
set_option maxRecDepth 20000 in
theorem gX8_carryOut_X8_readsOrder : GoodIn wsX8_carryOut (wsV RX8 183 RX8 yX8_readsOrder wsX8_readsOrder) := goodIn_app (goodIn_of _ (by decide +kernel)) ggX8_carryOut_X8_readsOrder
set_option maxRecDepth 20000 in
theorem ggX8_carryOut_X8_doesOrder : GoodIn wsX8_carryOut wsX8_doesOrder := goodIn_r _ [54, 13, 14, 55, 56, 57, 7, 58, 59, 60, 61, 24, 25, 26, 62, 63, 64, 65, 44, 66, 67, 68, 69, 70, 71, 72, 73, 74, 75, 76, 77, 78, 79, 80, 81, 82, 83, 84, 85, 86, 87, 88, 89, 90, 91, 92, 93, 94, 95, 96, 97, 98, 99, 100, 101, 102, 103, 104, 105, 106, 107, 108, 109, 110, 111, 112, 113, 114, 115, 116, 117, 118, 119, 120, 121, 122, 123, 124, 125, 126, 127, 128, 129, 130, 131, 132, 133, 134, 135, 136, 137, 138, 139, 140, 141, 142, 143, 144, 145, 146, 147, 148, 149, 150, 151, 152, 153, 154, 155, 156, 157] (by decide +kernel) (by decide +kernel)
set_option maxRecDepth 20000 in
theorem gX8_carryOut_X8_doesOrder : GoodIn wsX8_carryOut (wsV RX8 189 RX8 yX8_doesOrder wsX8_doesOrder) := goodIn_app (goodIn_of _ (by decide +kernel)) ggX8_carryOut_X8_doesOrder
theorem dX8_carryOut_0 : decode cX8_carryOut 0 = .ok (.aload_n 0, 1) := by decide +kernel
theorem dX8_carryOut_1 : decode cX8_carryOut 1 = .ok (.invokevirtual 186, 3) := by decide +kernel
theorem dX8_carryOut_4 : decode cX8_carryOut 4 = .ok (.bipush (-6), 2) := by decide +kernel
theorem dX8_carryOut_6 : decode cX8_carryOut 6 = .ok (.if_icmp .eq 6, 3) := by decide +kernel
theorem dX8_carryOut_9 : decode cX8_carryOut 9 = .ok (.bipush (-3), 2) := by decide +kernel
theorem dX8_carryOut_11 : decode cX8_carryOut 11 = .ok (.ireturn, 1) := by decide +kernel
theorem dX8_carryOut_12 : decode cX8_carryOut 12 = .ok (.aload_n 0, 1) := by decide +kernel
theorem dX8_carryOut_13 : decode cX8_carryOut 13 = .ok (.invokevirtual 47, 3) := by decide +kernel
theorem dX8_carryOut_16 : decode cX8_carryOut 16 = .ok (.aload_n 0, 1) := by decide +kernel
theorem dX8_carryOut_17 : decode cX8_carryOut 17 = .ok (.invokevirtual 40, 3) := by decide +kernel
theorem dX8_carryOut_20 : decode cX8_carryOut 20 = .ok (.aload_n 0, 1) := by decide +kernel
theorem dX8_carryOut_21 : decode cX8_carryOut 21 = .ok (.iconst 0, 1) := by decide +kernel
theorem dX8_carryOut_22 : decode cX8_carryOut 22 = .ok (.putfield 155, 3) := by decide +kernel
theorem dX8_carryOut_25 : decode cX8_carryOut 25 = .ok (.iconst 0, 1) := by decide +kernel
theorem dX8_carryOut_26 : decode cX8_carryOut 26 = .ok (.istore_n 1, 1) := by decide +kernel
theorem dX8_carryOut_27 : decode cX8_carryOut 27 = .ok (.iconst 1, 1) := by decide +kernel
theorem dX8_carryOut_28 : decode cX8_carryOut 28 = .ok (.istore_n 2, 1) := by decide +kernel
theorem dX8_carryOut_29 : decode cX8_carryOut 29 = .ok (.iload_n 2, 1) := by decide +kernel
theorem dX8_carryOut_30 : decode cX8_carryOut 30 = .ok (.ifCond .eq 77, 3) := by decide +kernel
theorem dX8_carryOut_33 : decode cX8_carryOut 33 = .ok (.aload_n 0, 1) := by decide +kernel
theorem dX8_carryOut_34 : decode cX8_carryOut 34 = .ok (.getfield 155, 3) := by decide +kernel
theorem dX8_carryOut_37 : decode cX8_carryOut 37 = .ok (.aload_n 0, 1) := by decide +kernel
theorem dX8_carryOut_38 : decode cX8_carryOut 38 = .ok (.getfield 131, 3) := by decide +kernel
theorem dX8_carryOut_41 : decode cX8_carryOut 41 = .ok (.if_icmp .ge 66, 3) := by decide +kernel
theorem dX8_carryOut_44 : decode cX8_carryOut 44 = .ok (.aload_n 0, 1) := by decide +kernel
theorem dX8_carryOut_45 : decode cX8_carryOut 45 = .ok (.invokevirtual 183, 3) := by decide +kernel
theorem dX8_carryOut_48 : decode cX8_carryOut 48 = .ok (.istore_n 2, 1) := by decide +kernel
theorem dX8_carryOut_49 : decode cX8_carryOut 49 = .ok (.iconst 0, 1) := by decide +kernel
theorem dX8_carryOut_50 : decode cX8_carryOut 50 = .ok (.istore_n 3, 1) := by decide +kernel
theorem dX8_carryOut_51 : decode cX8_carryOut 51 = .ok (.iload_n 3, 1) := by decide +kernel
theorem dX8_carryOut_52 : decode cX8_carryOut 52 = .ok (.aload_n 0, 1) := by decide +kernel
theorem dX8_carryOut_53 : decode cX8_carryOut 53 = .ok (.getfield 173, 3) := by decide +kernel
theorem dX8_carryOut_56 : decode cX8_carryOut 56 = .ok (.if_icmp .ge 38, 3) := by decide +kernel
theorem dX8_carryOut_59 : decode cX8_carryOut 59 = .ok (.iload_n 2, 1) := by decide +kernel
theorem dX8_carryOut_60 : decode cX8_carryOut 60 = .ok (.ifCond .eq 34, 3) := by decide +kernel
theorem dX8_carryOut_63 : decode cX8_carryOut 63 = .ok (.aload_n 0, 1) := by decide +kernel
theorem dX8_carryOut_64 : decode cX8_carryOut 64 = .ok (.invokevirtual 189, 3) := by decide +kernel
theorem dX8_carryOut_67 : decode cX8_carryOut 67 = .ok (.ifCond .lt 7, 3) := by decide +kernel
theorem dX8_carryOut_70 : decode cX8_carryOut 70 = .ok (.iconst 1, 1) := by decide +kernel
theorem dX8_carryOut_71 : decode cX8_carryOut 71 = .ok (.goto 4, 3) := by decide +kernel
theorem dX8_carryOut_74 : decode cX8_carryOut 74 = .ok (.iconst 0, 1) := by decide +kernel
theorem dX8_carryOut_75 : decode cX8_carryOut 75 = .ok (.istore_n 2, 1) := by decide +kernel
theorem dX8_carryOut_76 : decode cX8_carryOut 76 = .ok (.iload_n 1, 1) := by decide +kernel
theorem dX8_carryOut_77 : decode cX8_carryOut 77 = .ok (.iload_n 2, 1) := by decide +kernel
theorem dX8_carryOut_78 : decode cX8_carryOut 78 = .ok (.ifCond .eq 7, 3) := by decide +kernel
theorem dX8_carryOut_81 : decode cX8_carryOut 81 = .ok (.iconst 1, 1) := by decide +kernel
theorem dX8_carryOut_82 : decode cX8_carryOut 82 = .ok (.goto 4, 3) := by decide +kernel
theorem dX8_carryOut_85 : decode cX8_carryOut 85 = .ok (.iconst 0, 1) := by decide +kernel
theorem dX8_carryOut_86 : decode cX8_carryOut 86 = .ok (.iadd, 1) := by decide +kernel
theorem dX8_carryOut_87 : decode cX8_carryOut 87 = .ok (.istore_n 1, 1) := by decide +kernel
theorem dX8_carryOut_88 : decode cX8_carryOut 88 = .ok (.iinc 3 1, 3) := by decide +kernel
theorem dX8_carryOut_91 : decode cX8_carryOut 91 = .ok (.goto (-40), 3) := by decide +kernel
theorem dX8_carryOut_94 : decode cX8_carryOut 94 = .ok (.aload_n 0, 1) := by decide +kernel
theorem dX8_carryOut_95 : decode cX8_carryOut 95 = .ok (.dup, 1) := by decide +kernel
theorem dX8_carryOut_96 : decode cX8_carryOut 96 = .ok (.getfield 155, 3) := by decide +kernel
theorem dX8_carryOut_99 : decode cX8_carryOut 99 = .ok (.iconst 1, 1) := by decide +kernel
theorem dX8_carryOut_100 : decode cX8_carryOut 100 = .ok (.iadd, 1) := by decide +kernel
theorem dX8_carryOut_101 : decode cX8_carryOut 101 = .ok (.putfield 155, 3) := by decide +kernel
theorem dX8_carryOut_104 : decode cX8_carryOut 104 = .ok (.goto (-75), 3) := by decide +kernel
theorem dX8_carryOut_107 : decode cX8_carryOut 107 = .ok (.aload_n 0, 1) := by decide +kernel
theorem dX8_carryOut_108 : decode cX8_carryOut 108 = .ok (.iconst 0, 1) := by decide +kernel
theorem dX8_carryOut_109 : decode cX8_carryOut 109 = .ok (.putfield 131, 3) := by decide +kernel
theorem dX8_carryOut_112 : decode cX8_carryOut 112 = .ok (.iload_n 1, 1) := by decide +kernel
theorem dX8_carryOut_113 : decode cX8_carryOut 113 = .ok (.ireturn, 1) := by decide +kernel
theorem dJ9_max_7cf53_0 : decode cJ9_max_7cf53 0 = .ok (.iload_n 0, 1) := by decide +kernel
theorem dJ9_max_7cf53_1 : decode cJ9_max_7cf53 1 = .ok (.iload_n 1, 1) := by decide +kernel
theorem dJ9_max_7cf53_2 : decode cJ9_max_7cf53 2 = .ok (.if_icmp .lt 7, 3) := by decide +kernel
theorem dJ9_max_7cf53_5 : decode cJ9_max_7cf53 5 = .ok (.iload_n 0, 1) := by decide +kernel
theorem dJ9_max_7cf53_6 : decode cJ9_max_7cf53 6 = .ok (.goto 4, 3) := by decide +kernel
theorem dJ9_max_7cf53_9 : decode cJ9_max_7cf53 9 = .ok (.iload_n 1, 1) := by decide +kernel
theorem dJ9_max_7cf53_10 : decode cJ9_max_7cf53 10 = .ok (.ireturn, 1) := by decide +kernel
theorem dJ9_min_7cf53_0 : decode cJ9_min_7cf53 0 = .ok (.iload_n 0, 1) := by decide +kernel
theorem dJ9_min_7cf53_1 : decode cJ9_min_7cf53 1 = .ok (.iload_n 1, 1) := by decide +kernel
theorem dJ9_min_7cf53_2 : decode cJ9_min_7cf53 2 = .ok (.if_icmp .gt 7, 3) := by decide +kernel
theorem dJ9_min_7cf53_5 : decode cJ9_min_7cf53 5 = .ok (.iload_n 0, 1) := by decide +kernel
theorem dJ9_min_7cf53_6 : decode cJ9_min_7cf53 6 = .ok (.goto 4, 3) := by decide +kernel
theorem dJ9_min_7cf53_9 : decode cJ9_min_7cf53 9 = .ok (.iload_n 1, 1) := by decide +kernel
theorem dJ9_min_7cf53_10 : decode cJ9_min_7cf53 10 = .ok (.ireturn, 1) := by decide +kernel
set_option maxRecDepth 20000 in
theorem ggL_law_X7_init : GoodIn wsL_law wsX7_init := goodIn_r _ [9, 10, 11, 12, 13, 14, 15, 16, 17, 18, 19, 20, 21, 22, 23, 24, 25, 26, 27, 28, 29, 30, 31, 32, 33, 34, 35, 36, 37, 38, 39, 40, 41, 42, 43, 44, 45, 46, 47, 48, 49, 50, 51, 52, 53, 54, 55, 56, 57, 58, 59, 60, 61, 62, 63, 64, 65, 66, 67, 68, 69, 70, 71, 72, 73, 74, 75, 76, 77, 78, 79, 80, 81, 82, 83, 84, 85, 86, 87, 88, 89, 90, 91, 92, 93, 94, 95, 96, 97, 98, 99, 100, 101, 102, 103, 846, 847, 848, 849, 850, 851, 852, 853, 854, 855, 856, 829, 830, 831, 832, 833, 857, 858, 859, 860, 861, 862, 863, 864, 865, 866, 867, 868, 869, 870, 871, 872, 873, 874, 875, 876, 877, 878, 879, 880, 881] (by decide +kernel) (by decide +kernel)
set_option maxRecDepth 20000 in
theorem gL_law_X7_init : GoodIn wsL_law (wsX7_init) := ggL_law_X7_init
set_option maxRecDepth 20000 in
theorem ggL_law_X8_init : GoodIn wsL_law wsX8_init := goodIn_r _ [106, 107, 11, 12, 57, 108, 109, 110, 111, 112, 113, 114, 115, 116, 5, 117, 834, 835, 836, 837, 838, 839, 840, 841, 842, 843, 844, 845] (by decide +kernel) (by decide +kernel)
set_option maxRecDepth 20000 in
theorem gL_law_X8_init : GoodIn wsL_law (wsX8_init) := ggL_law_X8_init
set_option maxRecDepth 20000 in
theorem ggL_law_X7_set : GoodIn wsL_law wsX7_set := goodIn_r _ [121, 20, 16, 122, 123, 124, 19, 125, 126, 127, 128, 129, 130, 93, 131, 132, 133, 15, 134, 37, 41, 45, 46, 47, 135, 136, 137, 48, 138, 139, 140, 141, 142, 36, 143, 58, 144, 145, 55, 146, 147, 148, 149, 150, 151, 152, 153, 40, 154, 64, 65, 66, 67, 68, 155, 156, 157, 158, 159, 160, 161, 44, 162, 78, 79, 80, 81, 82, 163, 164, 165, 166, 167, 168, 169, 170, 171, 172, 84, 85, 86, 87, 173, 174, 175, 176, 177, 178, 829, 830, 831, 832, 833, 857, 858, 859, 846, 847, 848, 849, 850, 851, 852, 853, 854, 855, 856, 867, 868, 869, 870, 871, 872, 873, 874, 875, 876, 877, 878, 879, 880, 881] (by decide +kernel) (by decide +kernel)
set_option maxRecDepth 20000 in
theorem gL_law_X7_set : GoodIn wsL_law (wsV RL 13 RX7 yX7_set wsX7_set) := goodIn_app (goodIn_of _ (by decide +kernel)) ggL_law_X7_set
set_option maxRecDepth 20000 in
theorem ggL_law_X8_set : GoodIn wsL_law wsX8_set := goodIn_r _ [182, 108, 183, 184, 5, 185, 186, 187, 188, 189, 190, 191, 192, 193, 194, 195, 109, 196, 197, 198, 199, 200, 201, 202, 203, 204, 110, 834, 835, 836, 837, 838, 839, 840, 841, 842, 843, 844, 845] (by decide +kernel) (by decide +kernel)
set_option maxRecDepth 20000 in
theorem gL_law_X8_set : GoodIn wsL_law (wsV RL 17 RX8 yX8_set wsX8_set) := goodIn_app (goodIn_of _ (by decide +kernel)) ggL_law_X8_set
set_option maxRecDepth 20000 in
theorem ggL_law_X7_loud : GoodIn wsL_law wsX7_loud := goodIn_r _ [208, 20, 16, 122, 123, 124, 19, 125, 126, 127, 128, 129, 130, 93, 131, 132, 133, 15, 134, 37, 41, 45, 46, 47, 135, 136, 137, 48, 138, 139, 140, 141, 142, 36, 143, 58, 144, 145, 55, 146, 147, 148, 149, 150, 151, 152, 153, 40, 154, 64, 65, 66, 67, 68, 155, 156, 157, 158, 159, 160, 161, 44, 162, 78, 79, 80, 81, 82, 163, 164, 209, 210, 211, 212, 213, 2, 214, 169, 170, 171, 172, 84, 85, 86, 87, 173, 174, 175, 176, 177, 178, 829, 830, 831, 832, 833, 857, 858, 859, 846, 847, 848, 849, 850, 851, 852, 853, 854, 855, 856, 867, 868, 869, 870, 871, 872, 873, 874, 875, 876, 877, 878, 879, 880, 881] (by decide +kernel) (by decide +kernel)
set_option maxRecDepth 20000 in
theorem gL_law_X7_loud : GoodIn wsL_law (wsV RL 18 RX7 yX7_loud wsX7_loud) := goodIn_app (goodIn_of _ (by decide +kernel)) ggL_law_X7_loud
set_option maxRecDepth 20000 in
theorem ggL_law_X8_loud : GoodIn wsL_law wsX8_loud := goodIn_r _ [218, 219, 220, 5, 221, 183, 184, 185, 192, 193, 194, 195, 109, 108, 222, 223, 224, 225, 114, 115, 116, 117, 196, 197, 198, 199, 200, 201, 202, 203, 204, 110, 834, 835, 836, 837, 838, 839, 840, 841, 842, 843, 844, 845] (by decide +kernel) (by decide +kernel)
set_option maxRecDepth 20000 in
theorem gL_law_X8_loud : GoodIn wsL_law (wsV RL 21 RX8 yX8_loud wsX8_loud) := goodIn_app (goodIn_of _ (by decide +kernel)) ggL_law_X8_loud
set_option maxRecDepth 20000 in
theorem ggL_law_X7_pay : GoodIn wsL_law wsX7_pay := goodIn_r _ [229, 20, 16, 122, 123, 124, 19, 125, 126, 127, 128, 129, 130, 93, 131, 132, 133, 15, 134, 37, 41, 45, 46, 47, 135, 136, 137, 48, 138, 139, 140, 141, 142, 36, 143, 58, 144, 145, 55, 146, 147, 148, 149, 150, 151, 152, 153, 40, 154, 64, 65, 66, 67, 68, 155, 156, 157, 158, 159, 160, 161, 44, 162, 78, 79, 80, 81, 82, 163, 164, 230, 231, 232, 233, 213, 2, 214, 173, 174, 175, 176, 177, 178, 829, 830, 831, 832, 833, 857, 858, 859, 846, 847, 848, 849, 850, 851, 852, 853, 854, 855, 856, 867, 868, 869, 870, 871, 872, 873, 874, 875, 876, 877, 878, 879, 880, 881] (by decide +kernel) (by decide +kernel)
set_option maxRecDepth 20000 in
theorem gL_law_X7_pay : GoodIn wsL_law (wsV RL 22 RX7 yX7_pay wsX7_pay) := goodIn_app (goodIn_of _ (by decide +kernel)) ggL_law_X7_pay
set_option maxRecDepth 20000 in
theorem ggL_law_X8_pay : GoodIn wsL_law wsX8_pay := goodIn_r _ [237, 192, 193, 194, 5, 195, 109, 108, 238, 239, 240, 241, 219, 220, 221, 183, 184, 185, 222, 223, 224, 225, 114, 115, 116, 117, 242, 243, 244, 245, 196, 197, 198, 199, 200, 201, 202, 203, 204, 110, 834, 835, 836, 837, 838, 839, 840, 841, 842, 843, 844, 845] (by decide +kernel) (by decide +kernel)
set_option maxRecDepth 20000 in
theorem gL_law_X8_pay : GoodIn wsL_law (wsV RL 26 RX8 yX8_pay wsX8_pay) := goodIn_app (goodIn_of _ (by decide +kernel)) ggL_law_X8_pay
set_option maxRecDepth 20000 in
theorem ggL_law_X7_ends : GoodIn wsL_law wsX7_ends := goodIn_r _ [249, 20, 16, 122, 123, 124, 19, 125, 126, 127, 128, 129, 130, 93, 131, 132, 133, 15, 134, 37, 41, 45, 46, 47, 135, 136, 137, 48, 138, 139, 140, 141, 142, 36, 143, 58, 144, 145, 55, 146, 147, 148, 149, 150, 151, 152, 153, 40, 154, 64, 65, 66, 67, 68, 155, 156, 157, 158, 159, 160, 161, 44, 162, 78, 79, 80, 81, 82, 163, 164, 250, 251, 252, 253, 254, 2, 255, 256, 257, 258, 259, 260, 261, 262, 263, 264, 265, 266, 267, 173, 174, 175, 176, 177, 178, 829, 830, 831, 832, 833, 857, 858, 859, 846, 847, 848, 849, 850, 851, 852, 853, 854, 855, 856, 867, 868, 869, 870, 871, 872, 873, 874, 875, 876, 877, 878, 879, 880, 881] (by decide +kernel) (by decide +kernel)
set_option maxRecDepth 20000 in
theorem gL_law_X7_ends : GoodIn wsL_law (wsV RL 27 RX7 yX7_ends wsX7_ends) := goodIn_app (goodIn_of _ (by decide +kernel)) ggL_law_X7_ends
set_option maxRecDepth 20000 in
theorem ggL_law_X8_ends : GoodIn wsL_law wsX8_ends := goodIn_r _ [271, 192, 193, 194, 5, 195, 109, 108, 272, 273, 274, 275, 276, 277, 278, 183, 184, 185, 279, 280, 281, 282, 114, 115, 116, 117, 196, 197, 198, 199, 200, 201, 202, 203, 204, 110, 834, 835, 836, 837, 838, 839, 840, 841, 842, 843, 844, 845] (by decide +kernel) (by decide +kernel)
set_option maxRecDepth 20000 in
theorem gL_law_X8_ends : GoodIn wsL_law (wsV RL 30 RX8 yX8_ends wsX8_ends) := goodIn_app (goodIn_of _ (by decide +kernel)) ggL_law_X8_ends
set_option maxRecDepth 20000 in
theorem ggL_law_X7_clap : GoodIn wsL_law wsX7_clap := goodIn_r _ [286, 20, 16, 122, 123, 124, 19, 125, 126, 127, 128, 129, 130, 93, 131, 132, 133, 15, 134, 37, 41, 45, 46, 47, 135, 136, 137, 48, 138, 139, 140, 141, 142, 36, 143, 58, 144, 145, 55, 146, 147, 148, 149, 150, 151, 152, 153, 40, 154, 64, 65, 66, 67, 68, 155, 156, 157, 158, 159, 160, 161, 44, 162, 78, 79, 80, 81, 82, 163, 164, 287, 288, 289, 290, 291, 213, 2, 214, 169, 170, 171, 172, 292, 293, 294, 295, 296, 297, 298, 299, 300, 261, 262, 263, 301, 302, 85, 86, 87, 260, 303, 304, 305, 306, 307, 308, 309, 310, 311, 312, 173, 174, 175, 176, 177, 178, 829, 830, 831, 832, 833, 857, 858, 859, 846, 847, 848, 849, 850, 851, 852, 853, 854, 855, 856, 867, 868, 869, 870, 871, 872, 873, 874, 875, 876, 877, 878, 879, 880, 881] (by decide +kernel) (by decide +kernel)
set_option maxRecDepth 20000 in
theorem gL_law_X7_clap : GoodIn wsL_law (wsV RL 31 RX7 yX7_clap wsX7_clap) := goodIn_app (goodIn_of _ (by decide +kernel)) ggL_law_X7_clap
set_option maxRecDepth 20000 in
theorem ggL_law_X8_clap : GoodIn wsL_law wsX8_clap := goodIn_r _ [316, 192, 193, 194, 5, 195, 109, 108, 317, 318, 319, 320, 219, 220, 221, 183, 184, 185, 222, 223, 224, 225, 321, 322, 323, 324, 114, 115, 116, 117, 325, 326, 327, 328, 329, 330, 331, 332, 196, 197, 198, 199, 200, 201, 202, 203, 204, 110, 834, 835, 836, 837, 838, 839, 840, 841, 842, 843, 844, 845] (by decide +kernel) (by decide +kernel)
set_option maxRecDepth 20000 in
theorem gL_law_X8_clap : GoodIn wsL_law (wsV RL 34 RX8 yX8_clap wsX8_clap) := goodIn_app (goodIn_of _ (by decide +kernel)) ggL_law_X8_clap
set_option maxRecDepth 20000 in
theorem ggL_law_X7_pass : GoodIn wsL_law wsX7_pass := goodIn_r _ [336, 20, 16, 122, 123, 124, 19, 125, 126, 127, 128, 129, 130, 93, 131, 132, 133, 15, 134, 37, 41, 45, 46, 47, 135, 136, 137, 48, 138, 139, 140, 141, 142, 36, 143, 58, 144, 145, 55, 146, 147, 148, 149, 150, 151, 152, 153, 40, 154, 64, 65, 66, 67, 68, 155, 156, 157, 158, 159, 160, 161, 44, 162, 78, 79, 80, 81, 82, 163, 164, 337, 338, 339, 340, 341, 169, 170, 171, 172, 342, 2, 343, 344, 54, 56, 345, 346, 347, 348, 349, 311, 261, 262, 263, 312, 85, 86, 87, 260, 173, 174, 175, 176, 177, 178, 829, 830, 831, 832, 833, 857, 858, 859, 846, 847, 848, 849, 850, 851, 852, 853, 854, 855, 856, 867, 868, 869, 870, 871, 872, 873, 874, 875, 876, 877, 878, 879, 880, 881] (by decide +kernel) (by decide +kernel)
set_option maxRecDepth 20000 in
theorem gL_law_X7_pass : GoodIn wsL_law (wsV RL 35 RX7 yX7_pass wsX7_pass) := goodIn_app (goodIn_of _ (by decide +kernel)) ggL_law_X7_pass
set_option maxRecDepth 20000 in
theorem ggL_law_X8_pass : GoodIn wsL_law wsX8_pass := goodIn_r _ [353, 192, 193, 194, 5, 195, 109, 108, 354, 355, 356, 357, 358, 183, 184, 185, 359, 360, 361, 362, 363, 364, 365, 366, 367, 368, 369, 370, 329, 330, 331, 332, 371, 372, 373, 374, 196, 197, 198, 199, 200, 201, 202, 203, 204, 110, 834, 835, 836, 837, 838, 839, 840, 841, 842, 843, 844, 845] (by decide +kernel) (by decide +kernel)
set_option maxRecDepth 20000 in
theorem gL_law_X8_pass : GoodIn wsL_law (wsV RL 38 RX8 yX8_pass wsX8_pass) := goodIn_app (goodIn_of _ (by decide +kernel)) ggL_law_X8_pass
set_option maxRecDepth 20000 in
theorem ggL_law_X7_play : GoodIn wsL_law wsX7_play := goodIn_r _ [378, 20, 16, 122, 123, 124, 19, 125, 126, 127, 128, 129, 130, 93, 131, 132, 133, 15, 134, 37, 41, 45, 46, 47, 135, 136, 137, 48, 138, 139, 140, 141, 142, 36, 143, 58, 144, 145, 55, 146, 147, 148, 149, 150, 151, 152, 153, 40, 154, 64, 65, 66, 67, 68, 155, 156, 157, 158, 159, 160, 161, 44, 162, 78, 79, 80, 81, 82, 163, 164, 379, 380, 381, 382, 254, 2, 255, 383, 384, 385, 386, 387, 388, 389, 390, 349, 170, 171, 172, 312, 85, 86, 87, 311, 261, 262, 263, 260, 256, 257, 258, 259, 264, 265, 266, 267, 391, 392, 393, 394, 173, 174, 175, 176, 177, 178, 829, 830, 831, 832, 833, 857, 858, 859, 846, 847, 848, 849, 850, 851, 852, 853, 854, 855, 856, 867, 868, 869, 870, 871, 872, 873, 874, 875, 876, 877, 878, 879, 880, 881] (by decide +kernel) (by decide +kernel)
set_option maxRecDepth 20000 in
theorem gL_law_X7_play : GoodIn wsL_law (wsV RL 39 RX7 yX7_play wsX7_play) := goodIn_app (goodIn_of _ (by decide +kernel)) ggL_law_X7_play
set_option maxRecDepth 20000 in
theorem ggL_law_X8_play : GoodIn wsL_law wsX8_play := goodIn_r _ [398, 192, 193, 194, 5, 195, 109, 108, 399, 400, 401, 402, 276, 277, 278, 183, 184, 185, 403, 404, 405, 406, 371, 372, 373, 374, 279, 280, 281, 282, 114, 115, 116, 117, 407, 408, 409, 410, 196, 197, 198, 199, 200, 201, 202, 203, 204, 110, 834, 835, 836, 837, 838, 839, 840, 841, 842, 843, 844, 845] (by decide +kernel) (by decide +kernel)
set_option maxRecDepth 20000 in
theorem gL_law_X8_play : GoodIn wsL_law (wsV RL 42 RX8 yX8_play wsX8_play) := goodIn_app (goodIn_of _ (by decide +kernel)) ggL_law_X8_play
set_option maxRecDepth 20000 in
theorem ggL_law_X7_call : GoodIn wsL_law wsX7_call := goodIn_r _ [414, 20, 16, 122, 123, 124, 19, 125, 126, 127, 128, 129, 130, 93, 131, 132, 133, 15, 134, 37, 41, 45, 46, 47, 135, 136, 137, 48, 138, 139, 140, 141, 142, 36, 143, 58, 144, 145, 55, 146, 147, 148, 149, 150, 151, 152, 153, 40, 154, 64, 65, 66, 67, 68, 155, 156, 157, 158, 159, 160, 161, 44, 162, 78, 79, 80, 81, 82, 163, 164, 415, 416, 417, 418, 169, 170, 171, 172, 260, 261, 262, 263, 173, 174, 175, 176, 177, 178, 829, 830, 831, 832, 833, 857, 858, 859, 846, 847, 848, 849, 850, 851, 852, 853, 854, 855, 856, 867, 868, 869, 870, 871, 872, 873, 874, 875, 876, 877, 878, 879, 880, 881] (by decide +kernel) (by decide +kernel)
set_option maxRecDepth 20000 in
theorem gL_law_X7_call : GoodIn wsL_law (wsV RL 43 RX7 yX7_call wsX7_call) := goodIn_app (goodIn_of _ (by decide +kernel)) ggL_law_X7_call
set_option maxRecDepth 20000 in
theorem ggL_law_X8_call : GoodIn wsL_law wsX8_call := goodIn_r _ [422, 192, 193, 194, 5, 195, 109, 108, 423, 424, 425, 426, 196, 197, 198, 199, 200, 201, 202, 203, 204, 110, 834, 835, 836, 837, 838, 839, 840, 841, 842, 843, 844, 845] (by decide +kernel) (by decide +kernel)
set_option maxRecDepth 20000 in
theorem gL_law_X8_call : GoodIn wsL_law (wsV RL 47 RX8 yX8_call wsX8_call) := goodIn_app (goodIn_of _ (by decide +kernel)) ggL_law_X8_call
set_option maxRecDepth 20000 in
theorem ggL_law_X7_night : GoodIn wsL_law wsX7_night := goodIn_r _ [430, 20, 16, 122, 123, 124, 19, 125, 126, 127, 128, 129, 130, 93, 131, 132, 133, 15, 134, 37, 41, 45, 46, 47, 135, 136, 137, 48, 138, 139, 140, 141, 142, 36, 143, 58, 144, 145, 55, 146, 147, 148, 149, 150, 151, 152, 153, 40, 154, 64, 65, 66, 67, 68, 155, 156, 157, 158, 159, 160, 161, 44, 162, 78, 79, 80, 81, 82, 163, 164, 431, 432, 433, 434, 345, 346, 347, 348, 349, 170, 171, 172, 311, 261, 262, 263, 312, 85, 86, 87, 260, 435, 436, 437, 169, 84, 438, 71, 72, 73, 439, 440, 441, 442, 70, 173, 174, 175, 176, 177, 178, 829, 830, 831, 832, 833, 857, 858, 859, 846, 847, 848, 849, 850, 851, 852, 853, 854, 855, 856, 867, 868, 869, 870, 871, 872, 873, 874, 875, 876, 877, 878, 879, 880, 881] (by decide +kernel) (by decide +kernel)
set_option maxRecDepth 20000 in
theorem gL_law_X7_night : GoodIn wsL_law (wsV RL 48 RX7 yX7_night wsX7_night) := goodIn_app (goodIn_of _ (by decide +kernel)) ggL_law_X7_night
set_option maxRecDepth 20000 in
theorem ggL_law_X8_night : GoodIn wsL_law wsX8_night := goodIn_r _ [446, 192, 193, 194, 5, 195, 109, 108, 447, 448, 449, 450, 329, 330, 331, 332, 451, 452, 453, 454, 114, 115, 116, 117, 196, 197, 198, 199, 200, 201, 202, 203, 204, 110, 834, 835, 836, 837, 838, 839, 840, 841, 842, 843, 844, 845] (by decide +kernel) (by decide +kernel)
set_option maxRecDepth 20000 in
theorem gL_law_X8_night : GoodIn wsL_law (wsV RL 51 RX8 yX8_night wsX8_night) := goodIn_app (goodIn_of _ (by decide +kernel)) ggL_law_X8_night
set_option maxRecDepth 20000 in
theorem ggL_law_X7_write : GoodIn wsL_law wsX7_write := goodIn_r _ [458, 25, 16, 459, 460, 461, 24, 462, 463, 464, 465, 466, 15, 467, 46, 45, 169, 170, 171, 36, 172, 58, 468, 469, 470, 471, 472, 473, 474, 475, 476, 98, 391, 392, 393, 44, 394, 163, 78, 349, 477, 478, 479, 480, 829, 830, 831, 832, 833, 860, 861, 846, 847, 848, 849, 850, 851, 852, 853, 854, 855, 856, 867, 876, 877, 878, 879, 880, 881] (by decide +kernel) (by decide +kernel)
set_option maxRecDepth 20000 in
theorem gL_law_X7_write : GoodIn wsL_law (wsV RL 52 RX7 yX7_write wsX7_write) := goodIn_app (goodIn_of _ (by decide +kernel)) ggL_law_X7_write
set_option maxRecDepth 20000 in
theorem ggL_law_X8_write : GoodIn wsL_law wsX8_write := goodIn_r _ [484, 485, 108, 486, 487, 488, 5, 489, 113, 490, 491, 492, 493, 407, 408, 409, 410, 834, 835, 836, 837, 838, 839, 840, 841, 842, 843, 844, 845] (by decide +kernel) (by decide +kernel)
set_option maxRecDepth 20000 in
theorem gL_law_X8_write : GoodIn wsL_law (wsV RL 55 RX8 yX8_write wsX8_write) := goodIn_app (goodIn_of _ (by decide +kernel)) ggL_law_X8_write
set_option maxRecDepth 20000 in
theorem ggL_law_X7_of : GoodIn wsL_law wsX7_of := goodIn_r _ [497, 16, 498, 499, 500, 15, 501, 41, 37, 213, 2, 214, 169, 170, 171, 36, 172, 58, 502, 297, 298, 40, 299, 157, 829, 830, 831, 832, 833, 846, 847, 848, 849, 850, 851, 852, 853, 854, 855, 856, 868, 869, 870, 871, 872, 873, 874, 875, 867] (by decide +kernel) (by decide +kernel)
set_option maxRecDepth 20000 in
theorem gL_law_X7_of : GoodIn wsL_law (wsV RL 56 RX7 yX7_of wsX7_of) := goodIn_app (goodIn_of _ (by decide +kernel)) ggL_law_X7_of
set_option maxRecDepth 20000 in
theorem ggL_law_X8_of : GoodIn wsL_law wsX8_of := goodIn_r _ [506, 108, 219, 220, 5, 221, 183, 184, 185, 222, 223, 224, 225, 834, 835, 836, 837, 838, 839, 840, 841, 842, 843, 844, 845] (by decide +kernel) (by decide +kernel)
set_option maxRecDepth 20000 in
theorem gL_law_X8_of : GoodIn wsL_law (wsV RL 59 RX8 yX8_of wsX8_of) := goodIn_app (goodIn_of _ (by decide +kernel)) ggL_law_X8_of
set_option maxRecDepth 20000 in
theorem ggL_law_X7_performer : GoodIn wsL_law wsX7_performer := goodIn_r _ [510, 16, 511, 512, 513, 44, 514, 80, 81, 82, 254, 2, 255, 515, 392, 393, 394, 163, 78, 349, 170, 171, 36, 172, 58, 829, 830, 831, 832, 833, 846, 847, 848, 849, 850, 851, 852, 853, 854, 855, 856, 876, 877, 878, 879, 880, 881, 867] (by decide +kernel) (by decide +kernel)
set_option maxRecDepth 20000 in
theorem gL_law_X7_performer : GoodIn wsL_law (wsV RL 60 RX7 yX7_performer wsX7_performer) := goodIn_app (goodIn_of _ (by decide +kernel)) ggL_law_X7_performer
set_option maxRecDepth 20000 in
theorem ggL_law_X8_performer : GoodIn wsL_law wsX8_performer := goodIn_r _ [519, 276, 277, 5, 278, 183, 184, 185, 407, 408, 409, 410, 108, 520, 521, 522, 523, 834, 835, 836, 837, 838, 839, 840, 841, 842, 843, 844, 845] (by decide +kernel) (by decide +kernel)
set_option maxRecDepth 20000 in
theorem gL_law_X8_performer : GoodIn wsL_law (wsV RL 63 RX8 yX8_performer wsX8_performer) := goodIn_app (goodIn_of _ (by decide +kernel)) ggL_law_X8_performer
set_option maxRecDepth 20000 in
theorem ggL_law_X7_owed : GoodIn wsL_law wsX7_owed := goodIn_r _ [527, 16, 528, 529, 530, 44, 531, 163, 78, 79, 349, 170, 171, 36, 172, 58, 829, 830, 831, 832, 833, 846, 847, 848, 849, 850, 851, 852, 853, 854, 855, 856, 876, 877, 878, 879, 880, 881, 867] (by decide +kernel) (by decide +kernel)
set_option maxRecDepth 20000 in
theorem gL_law_X7_owed : GoodIn wsL_law (wsV RL 64 RX7 yX7_owed wsX7_owed) := goodIn_app (goodIn_of _ (by decide +kernel)) ggL_law_X7_owed
set_option maxRecDepth 20000 in
theorem ggL_law_X8_owed : GoodIn wsL_law wsX8_owed := goodIn_r _ [535, 108, 183, 184, 5, 185, 367, 368, 369, 370, 834, 835, 836, 837, 838, 839, 840, 841, 842, 843, 844, 845] (by decide +kernel) (by decide +kernel)
set_option maxRecDepth 20000 in
theorem gL_law_X8_owed : GoodIn wsL_law (wsV RL 67 RX8 yX8_owed wsX8_owed) := goodIn_app (goodIn_of _ (by decide +kernel)) ggL_law_X8_owed
set_option maxRecDepth 20000 in
theorem ggL_law_X7_clapper : GoodIn wsL_law wsX7_clapper := goodIn_r _ [539, 16, 540, 541, 542, 40, 543, 155, 68, 301, 170, 171, 36, 172, 58, 829, 830, 831, 832, 833, 846, 847, 848, 849, 850, 851, 852, 853, 854, 855, 856, 868, 869, 870, 871, 872, 873, 874, 875, 867] (by decide +kernel) (by decide +kernel)
set_option maxRecDepth 20000 in
theorem gL_law_X7_clapper : GoodIn wsL_law (wsV RL 68 RX7 yX7_clapper wsX7_clapper) := goodIn_app (goodIn_of _ (by decide +kernel)) ggL_law_X7_clapper
set_option maxRecDepth 20000 in
theorem ggL_law_X8_clapper : GoodIn wsL_law wsX8_clapper := goodIn_r _ [547, 108, 183, 184, 5, 185, 834, 835, 836, 837, 838, 839, 840, 841, 842, 843, 844, 845] (by decide +kernel) (by decide +kernel)
set_option maxRecDepth 20000 in
theorem gL_law_X8_clapper : GoodIn wsL_law (wsV RL 71 RX8 yX8_clapper wsX8_clapper) := goodIn_app (goodIn_of _ (by decide +kernel)) ggL_law_X8_clapper
set_option maxRecDepth 20000 in
theorem ggL_law_X7_record : GoodIn wsL_law wsX7_record := goodIn_r _ [551, 16, 552, 553, 554, 15, 555, 137, 291, 145, 55, 146, 47, 435, 436, 437, 169, 170, 171, 36, 172, 58, 829, 830, 831, 832, 833, 846, 847, 848, 849, 850, 851, 852, 853, 854, 855, 856, 867] (by decide +kernel) (by decide +kernel)
set_option maxRecDepth 20000 in
theorem gL_law_X7_record : GoodIn wsL_law (wsV RL 72 RX7 yX7_record wsX7_record) := goodIn_app (goodIn_of _ (by decide +kernel)) ggL_law_X7_record
set_option maxRecDepth 20000 in
theorem ggL_law_X8_record : GoodIn wsL_law wsX8_record := goodIn_r _ [559, 108, 183, 184, 5, 185, 834, 835, 836, 837, 838, 839, 840, 841, 842, 843, 844, 845] (by decide +kernel) (by decide +kernel)
set_option maxRecDepth 20000 in
theorem gL_law_X8_record : GoodIn wsL_law (wsV RL 75 RX8 yX8_record wsX8_record) := goodIn_app (goodIn_of _ (by decide +kernel)) ggL_law_X8_record
set_option maxRecDepth 20000 in
theorem ggL_law_X7_sign : GoodIn wsL_law wsX7_sign := goodIn_r _ [563, 25, 564, 565, 566, 24, 567, 463, 568, 569, 570, 571, 98, 829, 830, 831, 832, 833, 860, 861] (by decide +kernel) (by decide +kernel)
set_option maxRecDepth 20000 in
theorem gL_law_X7_sign : GoodIn wsL_law (wsV RL 76 RX7 yX7_sign wsX7_sign) := goodIn_app (goodIn_of _ (by decide +kernel)) ggL_law_X7_sign
set_option maxRecDepth 20000 in
theorem ggL_law_X8_sign : GoodIn wsL_law wsX8_sign := goodIn_r _ [575, 485, 113, 183, 184, 5, 185, 834, 835, 836, 837, 838, 839, 840, 841, 842, 843, 844, 845] (by decide +kernel) (by decide +kernel)
set_option maxRecDepth 20000 in
theorem gL_law_X8_sign : GoodIn wsL_law (wsV RL 79 RX8 yX8_sign wsX8_sign) := goodIn_app (goodIn_of _ (by decide +kernel)) ggL_law_X8_sign
set_option maxRecDepth 20000 in
theorem ggL_law_X7_count : GoodIn wsL_law wsX7_count := goodIn_r _ [579, 25, 20, 16, 477, 478, 479, 24, 480, 463, 580, 581, 582, 19, 583, 177, 584, 585, 586, 15, 587, 135, 136, 137, 46, 45, 48, 138, 41, 37, 169, 170, 171, 36, 172, 58, 588, 589, 590, 591, 592, 593, 594, 595, 596, 597, 598, 40, 599, 65, 301, 829, 830, 831, 832, 833, 860, 861, 857, 858, 859, 846, 847, 848, 849, 850, 851, 852, 853, 854, 855, 856, 876, 877, 878, 879, 880, 881, 868, 869, 870, 871, 872, 873, 874, 875, 867] (by decide +kernel) (by decide +kernel)
set_option maxRecDepth 20000 in
theorem gL_law_X7_count : GoodIn wsL_law (wsV RL 80 RX7 yX7_count wsX7_count) := goodIn_app (goodIn_of _ (by decide +kernel)) ggL_law_X7_count
set_option maxRecDepth 20000 in
theorem ggL_law_X8_count : GoodIn wsL_law wsX8_count := goodIn_r _ [603, 108, 485, 204, 183, 184, 5, 185, 604, 605, 606, 607, 520, 521, 522, 523, 242, 243, 244, 245, 222, 223, 224, 225, 834, 835, 836, 837, 838, 839, 840, 841, 842, 843, 844, 845] (by decide +kernel) (by decide +kernel)
set_option maxRecDepth 20000 in
theorem gL_law_X8_count : GoodIn wsL_law (wsV RL 83 RX8 yX8_count wsX8_count) := goodIn_app (goodIn_of _ (by decide +kernel)) ggL_law_X8_count
set_option maxRecDepth 20000 in
theorem ggL_law_X7_quietIn : GoodIn wsL_law wsX7_quietIn := goodIn_r _ [611, 16, 612, 613, 614, 15, 615, 135, 37, 169, 170, 171, 36, 172, 58, 342, 2, 343, 344, 54, 55, 56, 829, 830, 831, 832, 833, 846, 847, 848, 849, 850, 851, 852, 853, 854, 855, 856, 867] (by decide +kernel) (by decide +kernel)
set_option maxRecDepth 20000 in
theorem gL_law_X7_quietIn : GoodIn wsL_law (wsV RL 84 RX7 yX7_quietIn wsX7_quietIn) := goodIn_app (goodIn_of _ (by decide +kernel)) ggL_law_X7_quietIn
set_option maxRecDepth 20000 in
theorem ggL_law_X8_quietIn : GoodIn wsL_law wsX8_quietIn := goodIn_r _ [619, 108, 183, 184, 5, 185, 363, 364, 365, 366, 834, 835, 836, 837, 838, 839, 840, 841, 842, 843, 844, 845] (by decide +kernel) (by decide +kernel)
set_option maxRecDepth 20000 in
theorem gL_law_X8_quietIn : GoodIn wsL_law (wsV RL 87 RX8 yX8_quietIn wsX8_quietIn) := goodIn_app (goodIn_of _ (by decide +kernel)) ggL_law_X8_quietIn
set_option maxRecDepth 20000 in
theorem ggL_law_X7_clapsFor : GoodIn wsL_law wsX7_clapsFor := goodIn_r _ [623, 16, 624, 625, 626, 15, 627, 48, 139, 41, 37, 135, 213, 2, 214, 169, 170, 171, 36, 172, 58, 829, 830, 831, 832, 833, 846, 847, 848, 849, 850, 851, 852, 853, 854, 855, 856, 868, 869, 870, 871, 872, 873, 874, 875, 867] (by decide +kernel) (by decide +kernel)
set_option maxRecDepth 20000 in
theorem gL_law_X7_clapsFor : GoodIn wsL_law (wsV RL 88 RX7 yX7_clapsFor wsX7_clapsFor) := goodIn_app (goodIn_of _ (by decide +kernel)) ggL_law_X7_clapsFor
set_option maxRecDepth 20000 in
theorem ggL_law_X8_clapsFor : GoodIn wsL_law wsX8_clapsFor := goodIn_r _ [631, 108, 219, 220, 5, 221, 183, 184, 185, 222, 223, 224, 225, 834, 835, 836, 837, 838, 839, 840, 841, 842, 843, 844, 845] (by decide +kernel) (by decide +kernel)
set_option maxRecDepth 20000 in
theorem gL_law_X8_clapsFor : GoodIn wsL_law (wsV RL 91 RX8 yX8_clapsFor wsX8_clapsFor) := goodIn_app (goodIn_of _ (by decide +kernel)) ggL_law_X8_clapsFor
set_option maxRecDepth 20000 in
theorem ggL_law_X7_lapsesIn : GoodIn wsL_law wsX7_lapsesIn := goodIn_r _ [635, 16, 636, 637, 638, 15, 639, 45, 136, 37, 640, 54, 55, 56, 254, 2, 255, 641, 388, 389, 44, 390, 163, 78, 349, 170, 171, 36, 172, 58, 169, 829, 830, 831, 832, 833, 846, 847, 848, 849, 850, 851, 852, 853, 854, 855, 856, 876, 877, 878, 879, 880, 881, 867] (by decide +kernel) (by decide +kernel)
set_option maxRecDepth 20000 in
theorem gL_law_X7_lapsesIn : GoodIn wsL_law (wsV RL 92 RX7 yX7_lapsesIn wsX7_lapsesIn) := goodIn_app (goodIn_of _ (by decide +kernel)) ggL_law_X7_lapsesIn
set_option maxRecDepth 20000 in
theorem ggL_law_X8_lapsesIn : GoodIn wsL_law wsX8_lapsesIn := goodIn_r _ [645, 108, 276, 277, 5, 278, 183, 184, 185, 403, 404, 405, 406, 367, 368, 369, 370, 834, 835, 836, 837, 838, 839, 840, 841, 842, 843, 844, 845] (by decide +kernel) (by decide +kernel)
set_option maxRecDepth 20000 in
theorem gL_law_X8_lapsesIn : GoodIn wsL_law (wsV RL 95 RX8 yX8_lapsesIn wsX8_lapsesIn) := goodIn_app (goodIn_of _ (by decide +kernel)) ggL_law_X8_lapsesIn
set_option maxRecDepth 20000 in
theorem ggL_law_X7_calls : GoodIn wsL_law wsX7_calls := goodIn_r _ [649, 16, 650, 651, 652, 15, 653, 135, 37, 169, 170, 171, 36, 172, 58, 829, 830, 831, 832, 833, 846, 847, 848, 849, 850, 851, 852, 853, 854, 855, 856, 867] (by decide +kernel) (by decide +kernel)
set_option maxRecDepth 20000 in
theorem gL_law_X7_calls : GoodIn wsL_law (wsV RL 96 RX7 yX7_calls wsX7_calls) := goodIn_app (goodIn_of _ (by decide +kernel)) ggL_law_X7_calls
set_option maxRecDepth 20000 in
theorem ggL_law_X8_calls : GoodIn wsL_law wsX8_calls := goodIn_r _ [657, 108, 834, 835, 836, 837, 838, 839, 840, 841, 842, 843, 844, 845] (by decide +kernel) (by decide +kernel)
set_option maxRecDepth 20000 in
theorem gL_law_X8_calls : GoodIn wsL_law (wsV RL 99 RX8 yX8_calls wsX8_calls) := goodIn_app (goodIn_of _ (by decide +kernel)) ggL_law_X8_calls
set_option maxRecDepth 20000 in
theorem ggL_law_X7_ifFound : GoodIn wsL_law wsX7_ifFound := goodIn_r _ [661, 662, 663, 16, 664, 597, 598, 40, 599, 65, 301, 170, 171, 36, 172, 58, 829, 830, 831, 832, 833, 846, 847, 848, 849, 850, 851, 852, 853, 854, 855, 856, 868, 869, 870, 871, 872, 873, 874, 875, 867] (by decide +kernel) (by decide +kernel)
set_option maxRecDepth 20000 in
theorem gL_law_X7_ifFound : GoodIn wsL_law (wsV RL 100 RX7 yX7_ifFound wsX7_ifFound) := goodIn_app (goodIn_of _ (by decide +kernel)) ggL_law_X7_ifFound
set_option maxRecDepth 20000 in
theorem ggL_law_X8_ifFound : GoodIn wsL_law wsX8_ifFound := goodIn_r _ [668, 183, 184, 5, 185, 242, 243, 244, 245, 222, 223, 224, 225, 108, 834, 835, 836, 837, 838, 839, 840, 841, 842, 843, 844, 845] (by decide +kernel) (by decide +kernel)
set_option maxRecDepth 20000 in
theorem gL_law_X8_ifFound : GoodIn wsL_law (wsV RL 103 RX8 yX8_ifFound wsX8_ifFound) := goodIn_app (goodIn_of _ (by decide +kernel)) ggL_law_X8_ifFound
set_option maxRecDepth 20000 in
theorem ggL_law_X7_put : GoodIn wsL_law wsX7_put := goodIn_r _ [672, 25, 673, 674, 675, 24, 676, 463, 677, 678, 679, 680, 473, 474, 475, 476, 98, 829, 830, 831, 832, 833, 860, 861] (by decide +kernel) (by decide +kernel)
set_option maxRecDepth 20000 in
theorem gL_law_X7_put : GoodIn wsL_law (wsV RL 106 RX7 yX7_put wsX7_put) := goodIn_app (goodIn_of _ (by decide +kernel)) ggL_law_X7_put
set_option maxRecDepth 20000 in
theorem ggL_law_X8_put : GoodIn wsL_law wsX8_put := goodIn_r _ [684, 485, 685, 686, 687, 5, 688, 689, 690, 691, 183, 184, 185, 486, 487, 488, 489, 113, 834, 835, 836, 837, 838, 839, 840, 841, 842, 843, 844, 845] (by decide +kernel) (by decide +kernel)
set_option maxRecDepth 20000 in
theorem gL_law_X8_put : GoodIn wsL_law (wsV RL 110 RX8 yX8_put wsX8_put) := goodIn_app (goodIn_of _ (by decide +kernel)) ggL_law_X8_put
set_option maxRecDepth 20000 in
theorem ggL_law_X7_wipe : GoodIn wsL_law wsX7_wipe := goodIn_r _ [695, 25, 477, 478, 479, 24, 480, 463, 459, 460, 461, 462, 829, 830, 831, 832, 833, 860, 861] (by decide +kernel) (by decide +kernel)
set_option maxRecDepth 20000 in
theorem gL_law_X7_wipe : GoodIn wsL_law (wsV RL 111 RX7 yX7_wipe wsX7_wipe) := goodIn_app (goodIn_of _ (by decide +kernel)) ggL_law_X7_wipe
set_option maxRecDepth 20000 in
theorem ggL_law_X8_wipe : GoodIn wsL_law wsX8_wipe := goodIn_r _ [699, 485, 834, 835, 836, 837, 838, 839, 840, 841, 842, 843, 844, 845] (by decide +kernel) (by decide +kernel)
set_option maxRecDepth 20000 in
theorem gL_law_X8_wipe : GoodIn wsL_law (wsV RL 114 RX8 yX8_wipe wsX8_wipe) := goodIn_app (goodIn_of _ (by decide +kernel)) ggL_law_X8_wipe
set_option maxRecDepth 20000 in
theorem ggL_law_X7_fault : GoodIn wsL_law wsX7_fault := goodIn_r _ [703, 29, 704, 705, 706, 28, 707, 708, 103, 709, 710, 711, 712, 713, 714, 715, 569, 570, 24, 571, 463, 98, 716, 717, 718, 719, 720, 721, 722, 723, 724, 725, 726, 727, 728, 729, 730, 731, 732, 733, 478, 479, 480, 829, 830, 831, 832, 833, 862, 863, 864, 865, 866, 860, 861] (by decide +kernel) (by decide +kernel)
set_option maxRecDepth 20000 in
theorem gL_law_X7_fault : GoodIn wsL_law (wsV RL 115 RX7 yX7_fault wsX7_fault) := goodIn_app (goodIn_of _ (by decide +kernel)) ggL_law_X7_fault
set_option maxRecDepth 20000 in
theorem ggL_law_X8_fault : GoodIn wsL_law wsX8_fault := goodIn_r _ [737, 738, 739, 740, 5, 741, 742, 485, 743, 744, 745, 746, 747, 748, 749, 750, 751, 752, 753, 113, 754, 755, 756, 757, 183, 184, 185, 758, 759, 760, 761, 762, 763, 764, 765, 766, 767, 768, 769, 834, 835, 836, 837, 838, 839, 840, 841, 842, 843, 844, 845] (by decide +kernel) (by decide +kernel)
set_option maxRecDepth 20000 in
theorem gL_law_X8_fault : GoodIn wsL_law (wsV RL 118 RX8 yX8_fault wsX8_fault) := goodIn_app (goodIn_of _ (by decide +kernel)) ggL_law_X8_fault
set_option maxRecDepth 20000 in
theorem ggL_law_X7_carryOut : GoodIn wsL_law wsX7_carryOut := goodIn_r _ [773, 29, 20, 16, 25, 704, 705, 706, 28, 707, 708, 103, 709, 710, 711, 712, 713, 714, 715, 569, 570, 24, 571, 463, 98, 716, 717, 718, 719, 720, 721, 722, 723, 724, 725, 726, 727, 728, 729, 730, 731, 732, 733, 478, 479, 480, 122, 123, 124, 19, 125, 126, 127, 128, 129, 130, 93, 131, 132, 133, 15, 134, 37, 41, 45, 46, 47, 135, 136, 137, 48, 138, 139, 140, 141, 142, 36, 143, 58, 144, 145, 55, 146, 147, 148, 149, 150, 151, 152, 153, 40, 154, 64, 65, 66, 67, 68, 155, 156, 157, 158, 159, 160, 161, 44, 162, 78, 79, 80, 81, 82, 163, 164, 774, 775, 776, 777, 778, 779, 780, 781, 782, 251, 252, 253, 254, 2, 255, 256, 257, 258, 259, 260, 261, 262, 263, 264, 265, 266, 267, 783, 288, 289, 290, 291, 213, 214, 169, 170, 171, 172, 292, 293, 294, 295, 296, 297, 298, 299, 300, 301, 302, 85, 86, 87, 303, 304, 305, 306, 307, 308, 309, 310, 311, 312, 784, 338, 339, 340, 341, 342, 343, 344, 54, 56, 345, 346, 347, 348, 349, 785, 380, 381, 382, 383, 384, 385, 386, 387, 388, 389, 390, 391, 392, 393, 394, 786, 416, 417, 418, 787, 432, 433, 434, 435, 436, 437, 84, 438, 71, 72, 73, 439, 440, 441, 442, 70, 788, 231, 232, 233, 459, 460, 461, 462, 173, 174, 175, 176, 177, 178, 829, 830, 831, 832, 833, 862, 863, 864, 865, 866, 860, 861, 857, 858, 859, 846, 847, 848, 849, 850, 851, 852, 853, 854, 855, 856, 867, 868, 869, 870, 871, 872, 873, 874, 875, 876, 877, 878, 879, 880, 881] (by decide +kernel) (by decide +kernel)
set_option maxRecDepth 20000 in
theorem gL_law_X7_carryOut : GoodIn wsL_law (wsV RL 119 RX7 yX7_carryOut wsX7_carryOut) := goodIn_app (goodIn_of _ (by decide +kernel)) ggL_law_X7_carryOut
set_option maxRecDepth 20000 in
theorem ggL_law_X8_carryOut : GoodIn wsL_law wsX8_carryOut := goodIn_r _ [792, 742, 485, 748, 738, 739, 740, 5, 741, 743, 744, 745, 746, 747, 749, 750, 751, 752, 753, 113, 754, 755, 756, 757, 183, 184, 185, 758, 759, 760, 761, 762, 763, 764, 765, 766, 767, 768, 769, 192, 193, 194, 195, 109, 108, 200, 201, 202, 203, 204, 110, 793, 794, 795, 796, 272, 273, 274, 275, 276, 277, 278, 279, 280, 281, 282, 114, 115, 116, 117, 317, 318, 319, 320, 219, 220, 221, 222, 223, 224, 225, 321, 322, 323, 324, 325, 326, 327, 328, 329, 330, 331, 332, 354, 355, 356, 357, 358, 359, 360, 361, 362, 363, 364, 365, 366, 367, 368, 369, 370, 371, 372, 373, 374, 399, 400, 401, 402, 403, 404, 405, 406, 407, 408, 409, 410, 423, 424, 425, 426, 447, 448, 449, 450, 451, 452, 453, 454, 238, 239, 240, 241, 242, 243, 244, 245, 834, 835, 836, 837, 838, 839, 840, 841, 842, 843, 844, 845] (by decide +kernel) (by decide +kernel)
set_option maxRecDepth 20000 in
theorem gL_law_X8_carryOut : GoodIn wsL_law (wsV RL 122 RX8 yX8_carryOut wsX8_carryOut) := goodIn_app (goodIn_of _ (by decide +kernel)) ggL_law_X8_carryOut
set_option maxRecDepth 20000 in
theorem ggL_law_X7_undo : GoodIn wsL_law wsX7_undo := goodIn_r _ [800, 20, 16, 801, 802, 803, 19, 804, 126, 177, 127, 128, 129, 130, 93, 131, 132, 133, 15, 134, 37, 41, 45, 46, 47, 135, 136, 137, 48, 138, 139, 140, 141, 142, 36, 143, 58, 144, 145, 55, 146, 147, 148, 149, 150, 151, 152, 153, 40, 154, 64, 65, 66, 67, 68, 155, 156, 157, 158, 159, 160, 161, 44, 162, 78, 79, 80, 81, 82, 163, 164, 829, 830, 831, 832, 833, 857, 858, 859, 846, 847, 848, 849, 850, 851, 852, 853, 854, 855, 856, 867, 868, 869, 870, 871, 872, 873, 874, 875, 876, 877, 878, 879, 880, 881] (by decide +kernel) (by decide +kernel)
set_option maxRecDepth 20000 in
theorem gL_law_X7_undo : GoodIn wsL_law (wsV RL 123 RX7 yX7_undo wsX7_undo) := goodIn_app (goodIn_of _ (by decide +kernel)) ggL_law_X7_undo
set_option maxRecDepth 20000 in
theorem ggL_law_X8_undo : GoodIn wsL_law wsX8_undo := goodIn_r _ [808, 204, 108, 110, 834, 835, 836, 837, 838, 839, 840, 841, 842, 843, 844, 845] (by decide +kernel) (by decide +kernel)
set_option maxRecDepth 20000 in
theorem gL_law_X8_undo : GoodIn wsL_law (wsV RL 126 RX8 yX8_undo wsX8_undo) := goodIn_app (goodIn_of _ (by decide +kernel)) ggL_law_X8_undo
set_option maxRecDepth 20000 in
theorem ggL_law_X7_save : GoodIn wsL_law wsX7_save := goodIn_r _ [812, 21, 13, 14, 15, 16, 30, 31, 32, 33, 11, 12, 34, 35, 36, 37, 38, 39, 40, 41, 42, 43, 44, 45, 46, 47, 48, 49, 50, 51, 52, 53, 54, 55, 56, 57, 58, 59, 60, 61, 62, 63, 64, 65, 66, 67, 68, 69, 70, 71, 72, 73, 74, 75, 76, 77, 78, 79, 80, 81, 82, 83, 84, 85, 86, 87, 813, 132, 133, 134, 135, 136, 137, 138, 139, 140, 141, 142, 143, 144, 145, 146, 147, 148, 149, 150, 151, 152, 153, 154, 155, 156, 157, 158, 159, 160, 161, 162, 163, 164, 829, 830, 831, 832, 833, 846, 847, 848, 849, 850, 851, 852, 853, 854, 855, 856, 867, 868, 869, 870, 871, 872, 873, 874, 875, 876, 877, 878, 879, 880, 881] (by decide +kernel) (by decide +kernel)
set_option maxRecDepth 20000 in
theorem gL_law_X7_save : GoodIn wsL_law (wsV RL 127 RX7 yX7_save wsX7_save) := goodIn_app (goodIn_of _ (by decide +kernel)) ggL_law_X7_save
set_option maxRecDepth 20000 in
theorem ggL_law_X8_save : GoodIn wsL_law wsX8_save := goodIn_r _ [817, 111, 108, 112, 818, 819, 5, 820, 183, 184, 185, 834, 835, 836, 837, 838, 839, 840, 841, 842, 843, 844, 845] (by decide +kernel) (by decide +kernel)
set_option maxRecDepth 20000 in
theorem gL_law_X8_save : GoodIn wsL_law (wsV RL 130 RX8 yX8_save wsX8_save) := goodIn_app (goodIn_of _ (by decide +kernel)) ggL_law_X8_save
set_option maxRecDepth 20000 in
theorem ggL_law_X7_restore : GoodIn wsL_law wsX7_restore := goodIn_r _ [824, 21, 20, 16, 122, 123, 124, 19, 125, 126, 127, 128, 129, 130, 93, 131, 132, 133, 15, 134, 37, 41, 45, 46, 47, 135, 136, 137, 48, 138, 139, 140, 141, 142, 36, 143, 58, 144, 145, 55, 146, 147, 148, 149, 150, 151, 152, 153, 40, 154, 64, 65, 66, 67, 68, 155, 156, 157, 158, 159, 160, 161, 44, 162, 78, 79, 80, 81, 82, 163, 164, 813, 173, 174, 175, 176, 177, 178, 829, 830, 831, 832, 833, 846, 847, 848, 849, 850, 851, 852, 853, 854, 855, 856, 857, 858, 859, 867, 868, 869, 870, 871, 872, 873, 874, 875, 876, 877, 878, 879, 880, 881] (by decide +kernel) (by decide +kernel)
set_option maxRecDepth 20000 in
theorem gL_law_X7_restore : GoodIn wsL_law (wsV RL 131 RX7 yX7_restore wsX7_restore) := goodIn_app (goodIn_of _ (by decide +kernel)) ggL_law_X7_restore
set_option maxRecDepth 20000 in
theorem ggL_law_X8_restore : GoodIn wsL_law wsX8_restore := goodIn_r _ [828, 112, 108, 111, 818, 819, 5, 820, 183, 184, 185, 192, 193, 194, 195, 109, 200, 201, 202, 203, 204, 110, 834, 835, 836, 837, 838, 839, 840, 841, 842, 843, 844, 845] (by decide +kernel) (by decide +kernel)
set_option maxRecDepth 20000 in
theorem gL_law_X8_restore : GoodIn wsL_law (wsV RL 134 RX8 yX8_restore wsX8_restore) := goodIn_app (goodIn_of _ (by decide +kernel)) ggL_law_X8_restore
theorem dL_law_0 : decode cL_law 0 = .ok (.new 7, 3) := by decide +kernel
theorem dL_law_3 : decode cL_law 3 = .ok (.dup, 1) := by decide +kernel
theorem dL_law_4 : decode cL_law 4 = .ok (.invokespecial 9, 3) := by decide +kernel
theorem dL_law_7 : decode cL_law 7 = .ok (.astore_n 1, 1) := by decide +kernel
theorem dL_law_8 : decode cL_law 8 = .ok (.new 10, 3) := by decide +kernel
theorem dL_law_11 : decode cL_law 11 = .ok (.dup, 1) := by decide +kernel
theorem dL_law_12 : decode cL_law 12 = .ok (.invokespecial 12, 3) := by decide +kernel
theorem dL_law_15 : decode cL_law 15 = .ok (.astore_n 2, 1) := by decide +kernel
theorem dL_law_16 : decode cL_law 16 = .ok (.iconst 0, 1) := by decide +kernel
theorem dL_law_17 : decode cL_law 17 = .ok (.istore_n 3, 1) := by decide +kernel
theorem dL_law_18 : decode cL_law 18 = .ok (.iload_n 3, 1) := by decide +kernel
theorem dL_law_19 : decode cL_law 19 = .ok (.aload_n 0, 1) := by decide +kernel
theorem dL_law_20 : decode cL_law 20 = .ok (.arraylength, 1) := by decide +kernel
theorem dL_law_21 : decode cL_law 21 = .ok (.iconst 3, 1) := by decide +kernel
theorem dL_law_22 : decode cL_law 22 = .ok (.isub, 1) := by decide +kernel
theorem dL_law_23 : decode cL_law 23 = .ok (.if_icmp .gt 824, 3) := by decide +kernel
theorem dL_law_26 : decode cL_law 26 = .ok (.aload_n 0, 1) := by decide +kernel
theorem dL_law_27 : decode cL_law 27 = .ok (.iload_n 3, 1) := by decide +kernel
theorem dL_law_28 : decode cL_law 28 = .ok (.iaload, 1) := by decide +kernel
theorem dL_law_29 : decode cL_law 29 = .ok (.bipush 31, 2) := by decide +kernel
theorem dL_law_31 : decode cL_law 31 = .ok (.iand, 1) := by decide +kernel
theorem dL_law_32 : decode cL_law 32 = .ok (.tableswitch 809 0 28 #[132, 165, 198, 221, 244, 267, 290, 313, 326, 339, 352, 385, 418, 451, 474, 507, 530, 553, 576, 599, 622, 635, 658, 711, 724, 737, 750, 763, 786], 132) := by decide +kernel
theorem dL_law_164 : decode cL_law 164 = .ok (.aload_n 1, 1) := by decide +kernel
theorem dL_law_165 : decode cL_law 165 = .ok (.aload_n 0, 1) := by decide +kernel
theorem dL_law_166 : decode cL_law 166 = .ok (.iload_n 3, 1) := by decide +kernel
theorem dL_law_167 : decode cL_law 167 = .ok (.iconst 1, 1) := by decide +kernel
theorem dL_law_168 : decode cL_law 168 = .ok (.iadd, 1) := by decide +kernel
theorem dL_law_169 : decode cL_law 169 = .ok (.iaload, 1) := by decide +kernel
theorem dL_law_170 : decode cL_law 170 = .ok (.aload_n 0, 1) := by decide +kernel
theorem dL_law_171 : decode cL_law 171 = .ok (.iload_n 3, 1) := by decide +kernel
theorem dL_law_172 : decode cL_law 172 = .ok (.iconst 2, 1) := by decide +kernel
theorem dL_law_173 : decode cL_law 173 = .ok (.iadd, 1) := by decide +kernel
theorem dL_law_174 : decode cL_law 174 = .ok (.iaload, 1) := by decide +kernel
theorem dL_law_175 : decode cL_law 175 = .ok (.invokevirtual 13, 3) := by decide +kernel
theorem dL_law_178 : decode cL_law 178 = .ok (.aload_n 2, 1) := by decide +kernel
theorem dL_law_179 : decode cL_law 179 = .ok (.aload_n 0, 1) := by decide +kernel
theorem dL_law_180 : decode cL_law 180 = .ok (.iload_n 3, 1) := by decide +kernel
theorem dL_law_181 : decode cL_law 181 = .ok (.iconst 1, 1) := by decide +kernel
theorem dL_law_182 : decode cL_law 182 = .ok (.iadd, 1) := by decide +kernel
theorem dL_law_183 : decode cL_law 183 = .ok (.iaload, 1) := by decide +kernel
theorem dL_law_184 : decode cL_law 184 = .ok (.aload_n 0, 1) := by decide +kernel
theorem dL_law_185 : decode cL_law 185 = .ok (.iload_n 3, 1) := by decide +kernel
theorem dL_law_186 : decode cL_law 186 = .ok (.iconst 2, 1) := by decide +kernel
theorem dL_law_187 : decode cL_law 187 = .ok (.iadd, 1) := by decide +kernel
theorem dL_law_188 : decode cL_law 188 = .ok (.iaload, 1) := by decide +kernel
theorem dL_law_189 : decode cL_law 189 = .ok (.invokevirtual 17, 3) := by decide +kernel
theorem dL_law_192 : decode cL_law 192 = .ok (.if_icmp .eq 649, 3) := by decide +kernel
theorem dL_law_195 : decode cL_law 195 = .ok (.iconst 0, 1) := by decide +kernel
theorem dL_law_196 : decode cL_law 196 = .ok (.ireturn, 1) := by decide +kernel
theorem dL_law_197 : decode cL_law 197 = .ok (.aload_n 1, 1) := by decide +kernel
theorem dL_law_198 : decode cL_law 198 = .ok (.aload_n 0, 1) := by decide +kernel
theorem dL_law_199 : decode cL_law 199 = .ok (.iload_n 3, 1) := by decide +kernel
theorem dL_law_200 : decode cL_law 200 = .ok (.iconst 1, 1) := by decide +kernel
theorem dL_law_201 : decode cL_law 201 = .ok (.iadd, 1) := by decide +kernel
theorem dL_law_202 : decode cL_law 202 = .ok (.iaload, 1) := by decide +kernel
theorem dL_law_203 : decode cL_law 203 = .ok (.aload_n 0, 1) := by decide +kernel
theorem dL_law_204 : decode cL_law 204 = .ok (.iload_n 3, 1) := by decide +kernel
theorem dL_law_205 : decode cL_law 205 = .ok (.iconst 2, 1) := by decide +kernel
theorem dL_law_206 : decode cL_law 206 = .ok (.iadd, 1) := by decide +kernel
theorem dL_law_207 : decode cL_law 207 = .ok (.iaload, 1) := by decide +kernel
theorem dL_law_208 : decode cL_law 208 = .ok (.invokevirtual 18, 3) := by decide +kernel
theorem dL_law_211 : decode cL_law 211 = .ok (.aload_n 2, 1) := by decide +kernel
theorem dL_law_212 : decode cL_law 212 = .ok (.aload_n 0, 1) := by decide +kernel
theorem dL_law_213 : decode cL_law 213 = .ok (.iload_n 3, 1) := by decide +kernel
theorem dL_law_214 : decode cL_law 214 = .ok (.iconst 1, 1) := by decide +kernel
theorem dL_law_215 : decode cL_law 215 = .ok (.iadd, 1) := by decide +kernel
theorem dL_law_216 : decode cL_law 216 = .ok (.iaload, 1) := by decide +kernel
theorem dL_law_217 : decode cL_law 217 = .ok (.aload_n 0, 1) := by decide +kernel
theorem dL_law_218 : decode cL_law 218 = .ok (.iload_n 3, 1) := by decide +kernel
theorem dL_law_219 : decode cL_law 219 = .ok (.iconst 2, 1) := by decide +kernel
theorem dL_law_220 : decode cL_law 220 = .ok (.iadd, 1) := by decide +kernel
theorem dL_law_221 : decode cL_law 221 = .ok (.iaload, 1) := by decide +kernel
theorem dL_law_222 : decode cL_law 222 = .ok (.invokevirtual 21, 3) := by decide +kernel
theorem dL_law_225 : decode cL_law 225 = .ok (.if_icmp .eq 616, 3) := by decide +kernel
theorem dL_law_228 : decode cL_law 228 = .ok (.iconst 0, 1) := by decide +kernel
theorem dL_law_229 : decode cL_law 229 = .ok (.ireturn, 1) := by decide +kernel
theorem dL_law_230 : decode cL_law 230 = .ok (.aload_n 1, 1) := by decide +kernel
theorem dL_law_231 : decode cL_law 231 = .ok (.aload_n 0, 1) := by decide +kernel
theorem dL_law_232 : decode cL_law 232 = .ok (.iload_n 3, 1) := by decide +kernel
theorem dL_law_233 : decode cL_law 233 = .ok (.iconst 1, 1) := by decide +kernel
theorem dL_law_234 : decode cL_law 234 = .ok (.iadd, 1) := by decide +kernel
theorem dL_law_235 : decode cL_law 235 = .ok (.iaload, 1) := by decide +kernel
theorem dL_law_236 : decode cL_law 236 = .ok (.invokevirtual 22, 3) := by decide +kernel
theorem dL_law_239 : decode cL_law 239 = .ok (.aload_n 2, 1) := by decide +kernel
theorem dL_law_240 : decode cL_law 240 = .ok (.aload_n 0, 1) := by decide +kernel
theorem dL_law_241 : decode cL_law 241 = .ok (.iload_n 3, 1) := by decide +kernel
theorem dL_law_242 : decode cL_law 242 = .ok (.iconst 1, 1) := by decide +kernel
theorem dL_law_243 : decode cL_law 243 = .ok (.iadd, 1) := by decide +kernel
theorem dL_law_244 : decode cL_law 244 = .ok (.iaload, 1) := by decide +kernel
theorem dL_law_245 : decode cL_law 245 = .ok (.invokevirtual 26, 3) := by decide +kernel
theorem dL_law_248 : decode cL_law 248 = .ok (.if_icmp .eq 593, 3) := by decide +kernel
theorem dL_law_251 : decode cL_law 251 = .ok (.iconst 0, 1) := by decide +kernel
theorem dL_law_252 : decode cL_law 252 = .ok (.ireturn, 1) := by decide +kernel
theorem dL_law_253 : decode cL_law 253 = .ok (.aload_n 1, 1) := by decide +kernel
theorem dL_law_254 : decode cL_law 254 = .ok (.aload_n 0, 1) := by decide +kernel
theorem dL_law_255 : decode cL_law 255 = .ok (.iload_n 3, 1) := by decide +kernel
theorem dL_law_256 : decode cL_law 256 = .ok (.iconst 1, 1) := by decide +kernel
theorem dL_law_257 : decode cL_law 257 = .ok (.iadd, 1) := by decide +kernel
theorem dL_law_258 : decode cL_law 258 = .ok (.iaload, 1) := by decide +kernel
theorem dL_law_259 : decode cL_law 259 = .ok (.invokevirtual 27, 3) := by decide +kernel
theorem dL_law_262 : decode cL_law 262 = .ok (.aload_n 2, 1) := by decide +kernel
theorem dL_law_263 : decode cL_law 263 = .ok (.aload_n 0, 1) := by decide +kernel
theorem dL_law_264 : decode cL_law 264 = .ok (.iload_n 3, 1) := by decide +kernel
theorem dL_law_265 : decode cL_law 265 = .ok (.iconst 1, 1) := by decide +kernel
theorem dL_law_266 : decode cL_law 266 = .ok (.iadd, 1) := by decide +kernel
theorem dL_law_267 : decode cL_law 267 = .ok (.iaload, 1) := by decide +kernel
theorem dL_law_268 : decode cL_law 268 = .ok (.invokevirtual 30, 3) := by decide +kernel
theorem dL_law_271 : decode cL_law 271 = .ok (.if_icmp .eq 570, 3) := by decide +kernel
theorem dL_law_274 : decode cL_law 274 = .ok (.iconst 0, 1) := by decide +kernel
theorem dL_law_275 : decode cL_law 275 = .ok (.ireturn, 1) := by decide +kernel
theorem dL_law_276 : decode cL_law 276 = .ok (.aload_n 1, 1) := by decide +kernel
theorem dL_law_277 : decode cL_law 277 = .ok (.aload_n 0, 1) := by decide +kernel
theorem dL_law_278 : decode cL_law 278 = .ok (.iload_n 3, 1) := by decide +kernel
theorem dL_law_279 : decode cL_law 279 = .ok (.iconst 1, 1) := by decide +kernel
theorem dL_law_280 : decode cL_law 280 = .ok (.iadd, 1) := by decide +kernel
theorem dL_law_281 : decode cL_law 281 = .ok (.iaload, 1) := by decide +kernel
theorem dL_law_282 : decode cL_law 282 = .ok (.invokevirtual 31, 3) := by decide +kernel
theorem dL_law_285 : decode cL_law 285 = .ok (.aload_n 2, 1) := by decide +kernel
theorem dL_law_286 : decode cL_law 286 = .ok (.aload_n 0, 1) := by decide +kernel
theorem dL_law_287 : decode cL_law 287 = .ok (.iload_n 3, 1) := by decide +kernel
theorem dL_law_288 : decode cL_law 288 = .ok (.iconst 1, 1) := by decide +kernel
theorem dL_law_289 : decode cL_law 289 = .ok (.iadd, 1) := by decide +kernel
theorem dL_law_290 : decode cL_law 290 = .ok (.iaload, 1) := by decide +kernel
theorem dL_law_291 : decode cL_law 291 = .ok (.invokevirtual 34, 3) := by decide +kernel
theorem dL_law_294 : decode cL_law 294 = .ok (.if_icmp .eq 547, 3) := by decide +kernel
theorem dL_law_297 : decode cL_law 297 = .ok (.iconst 0, 1) := by decide +kernel
theorem dL_law_298 : decode cL_law 298 = .ok (.ireturn, 1) := by decide +kernel
theorem dL_law_299 : decode cL_law 299 = .ok (.aload_n 1, 1) := by decide +kernel
theorem dL_law_300 : decode cL_law 300 = .ok (.aload_n 0, 1) := by decide +kernel
theorem dL_law_301 : decode cL_law 301 = .ok (.iload_n 3, 1) := by decide +kernel
theorem dL_law_302 : decode cL_law 302 = .ok (.iconst 1, 1) := by decide +kernel
theorem dL_law_303 : decode cL_law 303 = .ok (.iadd, 1) := by decide +kernel
theorem dL_law_304 : decode cL_law 304 = .ok (.iaload, 1) := by decide +kernel
theorem dL_law_305 : decode cL_law 305 = .ok (.invokevirtual 35, 3) := by decide +kernel
theorem dL_law_308 : decode cL_law 308 = .ok (.aload_n 2, 1) := by decide +kernel
theorem dL_law_309 : decode cL_law 309 = .ok (.aload_n 0, 1) := by decide +kernel
theorem dL_law_310 : decode cL_law 310 = .ok (.iload_n 3, 1) := by decide +kernel
theorem dL_law_311 : decode cL_law 311 = .ok (.iconst 1, 1) := by decide +kernel
theorem dL_law_312 : decode cL_law 312 = .ok (.iadd, 1) := by decide +kernel
theorem dL_law_313 : decode cL_law 313 = .ok (.iaload, 1) := by decide +kernel
theorem dL_law_314 : decode cL_law 314 = .ok (.invokevirtual 38, 3) := by decide +kernel
theorem dL_law_317 : decode cL_law 317 = .ok (.if_icmp .eq 524, 3) := by decide +kernel
theorem dL_law_320 : decode cL_law 320 = .ok (.iconst 0, 1) := by decide +kernel
theorem dL_law_321 : decode cL_law 321 = .ok (.ireturn, 1) := by decide +kernel
theorem dL_law_322 : decode cL_law 322 = .ok (.aload_n 1, 1) := by decide +kernel
theorem dL_law_323 : decode cL_law 323 = .ok (.aload_n 0, 1) := by decide +kernel
theorem dL_law_324 : decode cL_law 324 = .ok (.iload_n 3, 1) := by decide +kernel
theorem dL_law_325 : decode cL_law 325 = .ok (.iconst 1, 1) := by decide +kernel
theorem dL_law_326 : decode cL_law 326 = .ok (.iadd, 1) := by decide +kernel
theorem dL_law_327 : decode cL_law 327 = .ok (.iaload, 1) := by decide +kernel
theorem dL_law_328 : decode cL_law 328 = .ok (.invokevirtual 39, 3) := by decide +kernel
theorem dL_law_331 : decode cL_law 331 = .ok (.aload_n 2, 1) := by decide +kernel
theorem dL_law_332 : decode cL_law 332 = .ok (.aload_n 0, 1) := by decide +kernel
theorem dL_law_333 : decode cL_law 333 = .ok (.iload_n 3, 1) := by decide +kernel
theorem dL_law_334 : decode cL_law 334 = .ok (.iconst 1, 1) := by decide +kernel
theorem dL_law_335 : decode cL_law 335 = .ok (.iadd, 1) := by decide +kernel
theorem dL_law_336 : decode cL_law 336 = .ok (.iaload, 1) := by decide +kernel
theorem dL_law_337 : decode cL_law 337 = .ok (.invokevirtual 42, 3) := by decide +kernel
theorem dL_law_340 : decode cL_law 340 = .ok (.if_icmp .eq 501, 3) := by decide +kernel
theorem dL_law_343 : decode cL_law 343 = .ok (.iconst 0, 1) := by decide +kernel
theorem dL_law_344 : decode cL_law 344 = .ok (.ireturn, 1) := by decide +kernel
theorem dL_law_345 : decode cL_law 345 = .ok (.aload_n 1, 1) := by decide +kernel
theorem dL_law_346 : decode cL_law 346 = .ok (.invokevirtual 43, 3) := by decide +kernel
theorem dL_law_349 : decode cL_law 349 = .ok (.aload_n 2, 1) := by decide +kernel
theorem dL_law_350 : decode cL_law 350 = .ok (.invokevirtual 47, 3) := by decide +kernel
theorem dL_law_353 : decode cL_law 353 = .ok (.if_icmp .eq 488, 3) := by decide +kernel
theorem dL_law_356 : decode cL_law 356 = .ok (.iconst 0, 1) := by decide +kernel
theorem dL_law_357 : decode cL_law 357 = .ok (.ireturn, 1) := by decide +kernel
theorem dL_law_358 : decode cL_law 358 = .ok (.aload_n 1, 1) := by decide +kernel
theorem dL_law_359 : decode cL_law 359 = .ok (.invokevirtual 48, 3) := by decide +kernel
theorem dL_law_362 : decode cL_law 362 = .ok (.aload_n 2, 1) := by decide +kernel
theorem dL_law_363 : decode cL_law 363 = .ok (.invokevirtual 51, 3) := by decide +kernel
theorem dL_law_366 : decode cL_law 366 = .ok (.if_icmp .eq 475, 3) := by decide +kernel
theorem dL_law_369 : decode cL_law 369 = .ok (.iconst 0, 1) := by decide +kernel
theorem dL_law_370 : decode cL_law 370 = .ok (.ireturn, 1) := by decide +kernel
theorem dL_law_371 : decode cL_law 371 = .ok (.aload_n 1, 1) := by decide +kernel
theorem dL_law_372 : decode cL_law 372 = .ok (.invokevirtual 52, 3) := by decide +kernel
theorem dL_law_375 : decode cL_law 375 = .ok (.aload_n 2, 1) := by decide +kernel
theorem dL_law_376 : decode cL_law 376 = .ok (.invokevirtual 55, 3) := by decide +kernel
theorem dL_law_379 : decode cL_law 379 = .ok (.if_icmp .eq 462, 3) := by decide +kernel
theorem dL_law_382 : decode cL_law 382 = .ok (.iconst 0, 1) := by decide +kernel
theorem dL_law_383 : decode cL_law 383 = .ok (.ireturn, 1) := by decide +kernel
theorem dL_law_384 : decode cL_law 384 = .ok (.aload_n 1, 1) := by decide +kernel
theorem dL_law_385 : decode cL_law 385 = .ok (.aload_n 0, 1) := by decide +kernel
theorem dL_law_386 : decode cL_law 386 = .ok (.iload_n 3, 1) := by decide +kernel
theorem dL_law_387 : decode cL_law 387 = .ok (.iconst 1, 1) := by decide +kernel
theorem dL_law_388 : decode cL_law 388 = .ok (.iadd, 1) := by decide +kernel
theorem dL_law_389 : decode cL_law 389 = .ok (.iaload, 1) := by decide +kernel
theorem dL_law_390 : decode cL_law 390 = .ok (.aload_n 0, 1) := by decide +kernel
theorem dL_law_391 : decode cL_law 391 = .ok (.iload_n 3, 1) := by decide +kernel
theorem dL_law_392 : decode cL_law 392 = .ok (.iconst 2, 1) := by decide +kernel
theorem dL_law_393 : decode cL_law 393 = .ok (.iadd, 1) := by decide +kernel
theorem dL_law_394 : decode cL_law 394 = .ok (.iaload, 1) := by decide +kernel
theorem dL_law_395 : decode cL_law 395 = .ok (.invokevirtual 56, 3) := by decide +kernel
theorem dL_law_398 : decode cL_law 398 = .ok (.aload_n 2, 1) := by decide +kernel
theorem dL_law_399 : decode cL_law 399 = .ok (.aload_n 0, 1) := by decide +kernel
theorem dL_law_400 : decode cL_law 400 = .ok (.iload_n 3, 1) := by decide +kernel
theorem dL_law_401 : decode cL_law 401 = .ok (.iconst 1, 1) := by decide +kernel
theorem dL_law_402 : decode cL_law 402 = .ok (.iadd, 1) := by decide +kernel
theorem dL_law_403 : decode cL_law 403 = .ok (.iaload, 1) := by decide +kernel
theorem dL_law_404 : decode cL_law 404 = .ok (.aload_n 0, 1) := by decide +kernel
theorem dL_law_405 : decode cL_law 405 = .ok (.iload_n 3, 1) := by decide +kernel
theorem dL_law_406 : decode cL_law 406 = .ok (.iconst 2, 1) := by decide +kernel
theorem dL_law_407 : decode cL_law 407 = .ok (.iadd, 1) := by decide +kernel
theorem dL_law_408 : decode cL_law 408 = .ok (.iaload, 1) := by decide +kernel
theorem dL_law_409 : decode cL_law 409 = .ok (.invokevirtual 59, 3) := by decide +kernel
theorem dL_law_412 : decode cL_law 412 = .ok (.if_icmp .eq 429, 3) := by decide +kernel
theorem dL_law_415 : decode cL_law 415 = .ok (.iconst 0, 1) := by decide +kernel
theorem dL_law_416 : decode cL_law 416 = .ok (.ireturn, 1) := by decide +kernel
theorem dL_law_417 : decode cL_law 417 = .ok (.aload_n 1, 1) := by decide +kernel
theorem dL_law_418 : decode cL_law 418 = .ok (.aload_n 0, 1) := by decide +kernel
theorem dL_law_419 : decode cL_law 419 = .ok (.iload_n 3, 1) := by decide +kernel
theorem dL_law_420 : decode cL_law 420 = .ok (.iconst 1, 1) := by decide +kernel
theorem dL_law_421 : decode cL_law 421 = .ok (.iadd, 1) := by decide +kernel
theorem dL_law_422 : decode cL_law 422 = .ok (.iaload, 1) := by decide +kernel
theorem dL_law_423 : decode cL_law 423 = .ok (.aload_n 0, 1) := by decide +kernel
theorem dL_law_424 : decode cL_law 424 = .ok (.iload_n 3, 1) := by decide +kernel
theorem dL_law_425 : decode cL_law 425 = .ok (.iconst 2, 1) := by decide +kernel
theorem dL_law_426 : decode cL_law 426 = .ok (.iadd, 1) := by decide +kernel
theorem dL_law_427 : decode cL_law 427 = .ok (.iaload, 1) := by decide +kernel
theorem dL_law_428 : decode cL_law 428 = .ok (.invokevirtual 60, 3) := by decide +kernel
theorem dL_law_431 : decode cL_law 431 = .ok (.aload_n 2, 1) := by decide +kernel
theorem dL_law_432 : decode cL_law 432 = .ok (.aload_n 0, 1) := by decide +kernel
theorem dL_law_433 : decode cL_law 433 = .ok (.iload_n 3, 1) := by decide +kernel
theorem dL_law_434 : decode cL_law 434 = .ok (.iconst 1, 1) := by decide +kernel
theorem dL_law_435 : decode cL_law 435 = .ok (.iadd, 1) := by decide +kernel
theorem dL_law_436 : decode cL_law 436 = .ok (.iaload, 1) := by decide +kernel
theorem dL_law_437 : decode cL_law 437 = .ok (.aload_n 0, 1) := by decide +kernel
theorem dL_law_438 : decode cL_law 438 = .ok (.iload_n 3, 1) := by decide +kernel
theorem dL_law_439 : decode cL_law 439 = .ok (.iconst 2, 1) := by decide +kernel
theorem dL_law_440 : decode cL_law 440 = .ok (.iadd, 1) := by decide +kernel
theorem dL_law_441 : decode cL_law 441 = .ok (.iaload, 1) := by decide +kernel
theorem dL_law_442 : decode cL_law 442 = .ok (.invokevirtual 63, 3) := by decide +kernel
theorem dL_law_445 : decode cL_law 445 = .ok (.if_icmp .eq 396, 3) := by decide +kernel
theorem dL_law_448 : decode cL_law 448 = .ok (.iconst 0, 1) := by decide +kernel
theorem dL_law_449 : decode cL_law 449 = .ok (.ireturn, 1) := by decide +kernel
theorem dL_law_450 : decode cL_law 450 = .ok (.aload_n 1, 1) := by decide +kernel
theorem dL_law_451 : decode cL_law 451 = .ok (.aload_n 0, 1) := by decide +kernel
theorem dL_law_452 : decode cL_law 452 = .ok (.iload_n 3, 1) := by decide +kernel
theorem dL_law_453 : decode cL_law 453 = .ok (.iconst 1, 1) := by decide +kernel
theorem dL_law_454 : decode cL_law 454 = .ok (.iadd, 1) := by decide +kernel
theorem dL_law_455 : decode cL_law 455 = .ok (.iaload, 1) := by decide +kernel
theorem dL_law_456 : decode cL_law 456 = .ok (.aload_n 0, 1) := by decide +kernel
theorem dL_law_457 : decode cL_law 457 = .ok (.iload_n 3, 1) := by decide +kernel
theorem dL_law_458 : decode cL_law 458 = .ok (.iconst 2, 1) := by decide +kernel
theorem dL_law_459 : decode cL_law 459 = .ok (.iadd, 1) := by decide +kernel
theorem dL_law_460 : decode cL_law 460 = .ok (.iaload, 1) := by decide +kernel
theorem dL_law_461 : decode cL_law 461 = .ok (.invokevirtual 64, 3) := by decide +kernel
theorem dL_law_464 : decode cL_law 464 = .ok (.aload_n 2, 1) := by decide +kernel
theorem dL_law_465 : decode cL_law 465 = .ok (.aload_n 0, 1) := by decide +kernel
theorem dL_law_466 : decode cL_law 466 = .ok (.iload_n 3, 1) := by decide +kernel
theorem dL_law_467 : decode cL_law 467 = .ok (.iconst 1, 1) := by decide +kernel
theorem dL_law_468 : decode cL_law 468 = .ok (.iadd, 1) := by decide +kernel
theorem dL_law_469 : decode cL_law 469 = .ok (.iaload, 1) := by decide +kernel
theorem dL_law_470 : decode cL_law 470 = .ok (.aload_n 0, 1) := by decide +kernel
theorem dL_law_471 : decode cL_law 471 = .ok (.iload_n 3, 1) := by decide +kernel
theorem dL_law_472 : decode cL_law 472 = .ok (.iconst 2, 1) := by decide +kernel
theorem dL_law_473 : decode cL_law 473 = .ok (.iadd, 1) := by decide +kernel
theorem dL_law_474 : decode cL_law 474 = .ok (.iaload, 1) := by decide +kernel
theorem dL_law_475 : decode cL_law 475 = .ok (.invokevirtual 67, 3) := by decide +kernel
theorem dL_law_478 : decode cL_law 478 = .ok (.if_icmp .eq 363, 3) := by decide +kernel
theorem dL_law_481 : decode cL_law 481 = .ok (.iconst 0, 1) := by decide +kernel
theorem dL_law_482 : decode cL_law 482 = .ok (.ireturn, 1) := by decide +kernel
theorem dL_law_483 : decode cL_law 483 = .ok (.aload_n 1, 1) := by decide +kernel
theorem dL_law_484 : decode cL_law 484 = .ok (.aload_n 0, 1) := by decide +kernel
theorem dL_law_485 : decode cL_law 485 = .ok (.iload_n 3, 1) := by decide +kernel
theorem dL_law_486 : decode cL_law 486 = .ok (.iconst 1, 1) := by decide +kernel
theorem dL_law_487 : decode cL_law 487 = .ok (.iadd, 1) := by decide +kernel
theorem dL_law_488 : decode cL_law 488 = .ok (.iaload, 1) := by decide +kernel
theorem dL_law_489 : decode cL_law 489 = .ok (.invokevirtual 68, 3) := by decide +kernel
theorem dL_law_492 : decode cL_law 492 = .ok (.aload_n 2, 1) := by decide +kernel
theorem dL_law_493 : decode cL_law 493 = .ok (.aload_n 0, 1) := by decide +kernel
theorem dL_law_494 : decode cL_law 494 = .ok (.iload_n 3, 1) := by decide +kernel
theorem dL_law_495 : decode cL_law 495 = .ok (.iconst 1, 1) := by decide +kernel
theorem dL_law_496 : decode cL_law 496 = .ok (.iadd, 1) := by decide +kernel
theorem dL_law_497 : decode cL_law 497 = .ok (.iaload, 1) := by decide +kernel
theorem dL_law_498 : decode cL_law 498 = .ok (.invokevirtual 71, 3) := by decide +kernel
theorem dL_law_501 : decode cL_law 501 = .ok (.if_icmp .eq 340, 3) := by decide +kernel
theorem dL_law_504 : decode cL_law 504 = .ok (.iconst 0, 1) := by decide +kernel
theorem dL_law_505 : decode cL_law 505 = .ok (.ireturn, 1) := by decide +kernel
theorem dL_law_506 : decode cL_law 506 = .ok (.aload_n 1, 1) := by decide +kernel
theorem dL_law_507 : decode cL_law 507 = .ok (.aload_n 0, 1) := by decide +kernel
theorem dL_law_508 : decode cL_law 508 = .ok (.iload_n 3, 1) := by decide +kernel
theorem dL_law_509 : decode cL_law 509 = .ok (.iconst 1, 1) := by decide +kernel
theorem dL_law_510 : decode cL_law 510 = .ok (.iadd, 1) := by decide +kernel
theorem dL_law_511 : decode cL_law 511 = .ok (.iaload, 1) := by decide +kernel
theorem dL_law_512 : decode cL_law 512 = .ok (.aload_n 0, 1) := by decide +kernel
theorem dL_law_513 : decode cL_law 513 = .ok (.iload_n 3, 1) := by decide +kernel
theorem dL_law_514 : decode cL_law 514 = .ok (.iconst 2, 1) := by decide +kernel
theorem dL_law_515 : decode cL_law 515 = .ok (.iadd, 1) := by decide +kernel
theorem dL_law_516 : decode cL_law 516 = .ok (.iaload, 1) := by decide +kernel
theorem dL_law_517 : decode cL_law 517 = .ok (.invokevirtual 72, 3) := by decide +kernel
theorem dL_law_520 : decode cL_law 520 = .ok (.aload_n 2, 1) := by decide +kernel
theorem dL_law_521 : decode cL_law 521 = .ok (.aload_n 0, 1) := by decide +kernel
theorem dL_law_522 : decode cL_law 522 = .ok (.iload_n 3, 1) := by decide +kernel
theorem dL_law_523 : decode cL_law 523 = .ok (.iconst 1, 1) := by decide +kernel
theorem dL_law_524 : decode cL_law 524 = .ok (.iadd, 1) := by decide +kernel
theorem dL_law_525 : decode cL_law 525 = .ok (.iaload, 1) := by decide +kernel
theorem dL_law_526 : decode cL_law 526 = .ok (.aload_n 0, 1) := by decide +kernel
theorem dL_law_527 : decode cL_law 527 = .ok (.iload_n 3, 1) := by decide +kernel
theorem dL_law_528 : decode cL_law 528 = .ok (.iconst 2, 1) := by decide +kernel
theorem dL_law_529 : decode cL_law 529 = .ok (.iadd, 1) := by decide +kernel
theorem dL_law_530 : decode cL_law 530 = .ok (.iaload, 1) := by decide +kernel
theorem dL_law_531 : decode cL_law 531 = .ok (.invokevirtual 75, 3) := by decide +kernel
theorem dL_law_534 : decode cL_law 534 = .ok (.if_icmp .eq 307, 3) := by decide +kernel
theorem dL_law_537 : decode cL_law 537 = .ok (.iconst 0, 1) := by decide +kernel
theorem dL_law_538 : decode cL_law 538 = .ok (.ireturn, 1) := by decide +kernel
theorem dL_law_539 : decode cL_law 539 = .ok (.aload_n 1, 1) := by decide +kernel
theorem dL_law_540 : decode cL_law 540 = .ok (.aload_n 0, 1) := by decide +kernel
theorem dL_law_541 : decode cL_law 541 = .ok (.iload_n 3, 1) := by decide +kernel
theorem dL_law_542 : decode cL_law 542 = .ok (.iconst 1, 1) := by decide +kernel
theorem dL_law_543 : decode cL_law 543 = .ok (.iadd, 1) := by decide +kernel
theorem dL_law_544 : decode cL_law 544 = .ok (.iaload, 1) := by decide +kernel
theorem dL_law_545 : decode cL_law 545 = .ok (.invokevirtual 76, 3) := by decide +kernel
theorem dL_law_548 : decode cL_law 548 = .ok (.aload_n 2, 1) := by decide +kernel
theorem dL_law_549 : decode cL_law 549 = .ok (.aload_n 0, 1) := by decide +kernel
theorem dL_law_550 : decode cL_law 550 = .ok (.iload_n 3, 1) := by decide +kernel
theorem dL_law_551 : decode cL_law 551 = .ok (.iconst 1, 1) := by decide +kernel
theorem dL_law_552 : decode cL_law 552 = .ok (.iadd, 1) := by decide +kernel
theorem dL_law_553 : decode cL_law 553 = .ok (.iaload, 1) := by decide +kernel
theorem dL_law_554 : decode cL_law 554 = .ok (.invokevirtual 79, 3) := by decide +kernel
theorem dL_law_557 : decode cL_law 557 = .ok (.if_icmp .eq 284, 3) := by decide +kernel
theorem dL_law_560 : decode cL_law 560 = .ok (.iconst 0, 1) := by decide +kernel
theorem dL_law_561 : decode cL_law 561 = .ok (.ireturn, 1) := by decide +kernel
theorem dL_law_562 : decode cL_law 562 = .ok (.aload_n 1, 1) := by decide +kernel
theorem dL_law_563 : decode cL_law 563 = .ok (.aload_n 0, 1) := by decide +kernel
theorem dL_law_564 : decode cL_law 564 = .ok (.iload_n 3, 1) := by decide +kernel
theorem dL_law_565 : decode cL_law 565 = .ok (.iconst 1, 1) := by decide +kernel
theorem dL_law_566 : decode cL_law 566 = .ok (.iadd, 1) := by decide +kernel
theorem dL_law_567 : decode cL_law 567 = .ok (.iaload, 1) := by decide +kernel
theorem dL_law_568 : decode cL_law 568 = .ok (.invokevirtual 80, 3) := by decide +kernel
theorem dL_law_571 : decode cL_law 571 = .ok (.aload_n 2, 1) := by decide +kernel
theorem dL_law_572 : decode cL_law 572 = .ok (.aload_n 0, 1) := by decide +kernel
theorem dL_law_573 : decode cL_law 573 = .ok (.iload_n 3, 1) := by decide +kernel
theorem dL_law_574 : decode cL_law 574 = .ok (.iconst 1, 1) := by decide +kernel
theorem dL_law_575 : decode cL_law 575 = .ok (.iadd, 1) := by decide +kernel
theorem dL_law_576 : decode cL_law 576 = .ok (.iaload, 1) := by decide +kernel
theorem dL_law_577 : decode cL_law 577 = .ok (.invokevirtual 83, 3) := by decide +kernel
theorem dL_law_580 : decode cL_law 580 = .ok (.if_icmp .eq 261, 3) := by decide +kernel
theorem dL_law_583 : decode cL_law 583 = .ok (.iconst 0, 1) := by decide +kernel
theorem dL_law_584 : decode cL_law 584 = .ok (.ireturn, 1) := by decide +kernel
theorem dL_law_585 : decode cL_law 585 = .ok (.aload_n 1, 1) := by decide +kernel
theorem dL_law_586 : decode cL_law 586 = .ok (.aload_n 0, 1) := by decide +kernel
theorem dL_law_587 : decode cL_law 587 = .ok (.iload_n 3, 1) := by decide +kernel
theorem dL_law_588 : decode cL_law 588 = .ok (.iconst 1, 1) := by decide +kernel
theorem dL_law_589 : decode cL_law 589 = .ok (.iadd, 1) := by decide +kernel
theorem dL_law_590 : decode cL_law 590 = .ok (.iaload, 1) := by decide +kernel
theorem dL_law_591 : decode cL_law 591 = .ok (.invokevirtual 84, 3) := by decide +kernel
theorem dL_law_594 : decode cL_law 594 = .ok (.aload_n 2, 1) := by decide +kernel
theorem dL_law_595 : decode cL_law 595 = .ok (.aload_n 0, 1) := by decide +kernel
theorem dL_law_596 : decode cL_law 596 = .ok (.iload_n 3, 1) := by decide +kernel
theorem dL_law_597 : decode cL_law 597 = .ok (.iconst 1, 1) := by decide +kernel
theorem dL_law_598 : decode cL_law 598 = .ok (.iadd, 1) := by decide +kernel
theorem dL_law_599 : decode cL_law 599 = .ok (.iaload, 1) := by decide +kernel
theorem dL_law_600 : decode cL_law 600 = .ok (.invokevirtual 87, 3) := by decide +kernel
theorem dL_law_603 : decode cL_law 603 = .ok (.if_icmp .eq 238, 3) := by decide +kernel
theorem dL_law_606 : decode cL_law 606 = .ok (.iconst 0, 1) := by decide +kernel
theorem dL_law_607 : decode cL_law 607 = .ok (.ireturn, 1) := by decide +kernel
theorem dL_law_608 : decode cL_law 608 = .ok (.aload_n 1, 1) := by decide +kernel
theorem dL_law_609 : decode cL_law 609 = .ok (.aload_n 0, 1) := by decide +kernel
theorem dL_law_610 : decode cL_law 610 = .ok (.iload_n 3, 1) := by decide +kernel
theorem dL_law_611 : decode cL_law 611 = .ok (.iconst 1, 1) := by decide +kernel
theorem dL_law_612 : decode cL_law 612 = .ok (.iadd, 1) := by decide +kernel
theorem dL_law_613 : decode cL_law 613 = .ok (.iaload, 1) := by decide +kernel
theorem dL_law_614 : decode cL_law 614 = .ok (.invokevirtual 88, 3) := by decide +kernel
theorem dL_law_617 : decode cL_law 617 = .ok (.aload_n 2, 1) := by decide +kernel
theorem dL_law_618 : decode cL_law 618 = .ok (.aload_n 0, 1) := by decide +kernel
theorem dL_law_619 : decode cL_law 619 = .ok (.iload_n 3, 1) := by decide +kernel
theorem dL_law_620 : decode cL_law 620 = .ok (.iconst 1, 1) := by decide +kernel
theorem dL_law_621 : decode cL_law 621 = .ok (.iadd, 1) := by decide +kernel
theorem dL_law_622 : decode cL_law 622 = .ok (.iaload, 1) := by decide +kernel
theorem dL_law_623 : decode cL_law 623 = .ok (.invokevirtual 91, 3) := by decide +kernel
theorem dL_law_626 : decode cL_law 626 = .ok (.if_icmp .eq 215, 3) := by decide +kernel
theorem dL_law_629 : decode cL_law 629 = .ok (.iconst 0, 1) := by decide +kernel
theorem dL_law_630 : decode cL_law 630 = .ok (.ireturn, 1) := by decide +kernel
theorem dL_law_631 : decode cL_law 631 = .ok (.aload_n 1, 1) := by decide +kernel
theorem dL_law_632 : decode cL_law 632 = .ok (.aload_n 0, 1) := by decide +kernel
theorem dL_law_633 : decode cL_law 633 = .ok (.iload_n 3, 1) := by decide +kernel
theorem dL_law_634 : decode cL_law 634 = .ok (.iconst 1, 1) := by decide +kernel
theorem dL_law_635 : decode cL_law 635 = .ok (.iadd, 1) := by decide +kernel
theorem dL_law_636 : decode cL_law 636 = .ok (.iaload, 1) := by decide +kernel
theorem dL_law_637 : decode cL_law 637 = .ok (.invokevirtual 92, 3) := by decide +kernel
theorem dL_law_640 : decode cL_law 640 = .ok (.aload_n 2, 1) := by decide +kernel
theorem dL_law_641 : decode cL_law 641 = .ok (.aload_n 0, 1) := by decide +kernel
theorem dL_law_642 : decode cL_law 642 = .ok (.iload_n 3, 1) := by decide +kernel
theorem dL_law_643 : decode cL_law 643 = .ok (.iconst 1, 1) := by decide +kernel
theorem dL_law_644 : decode cL_law 644 = .ok (.iadd, 1) := by decide +kernel
theorem dL_law_645 : decode cL_law 645 = .ok (.iaload, 1) := by decide +kernel
theorem dL_law_646 : decode cL_law 646 = .ok (.invokevirtual 95, 3) := by decide +kernel
theorem dL_law_649 : decode cL_law 649 = .ok (.if_icmp .eq 192, 3) := by decide +kernel
theorem dL_law_652 : decode cL_law 652 = .ok (.iconst 0, 1) := by decide +kernel
theorem dL_law_653 : decode cL_law 653 = .ok (.ireturn, 1) := by decide +kernel
theorem dL_law_654 : decode cL_law 654 = .ok (.aload_n 1, 1) := by decide +kernel
theorem dL_law_655 : decode cL_law 655 = .ok (.invokevirtual 96, 3) := by decide +kernel
theorem dL_law_658 : decode cL_law 658 = .ok (.aload_n 2, 1) := by decide +kernel
theorem dL_law_659 : decode cL_law 659 = .ok (.invokevirtual 99, 3) := by decide +kernel
theorem dL_law_662 : decode cL_law 662 = .ok (.if_icmp .eq 179, 3) := by decide +kernel
theorem dL_law_665 : decode cL_law 665 = .ok (.iconst 0, 1) := by decide +kernel
theorem dL_law_666 : decode cL_law 666 = .ok (.ireturn, 1) := by decide +kernel
theorem dL_law_667 : decode cL_law 667 = .ok (.aload_n 1, 1) := by decide +kernel
theorem dL_law_668 : decode cL_law 668 = .ok (.aload_n 0, 1) := by decide +kernel
theorem dL_law_669 : decode cL_law 669 = .ok (.iload_n 3, 1) := by decide +kernel
theorem dL_law_670 : decode cL_law 670 = .ok (.iconst 1, 1) := by decide +kernel
theorem dL_law_671 : decode cL_law 671 = .ok (.iadd, 1) := by decide +kernel
theorem dL_law_672 : decode cL_law 672 = .ok (.iaload, 1) := by decide +kernel
theorem dL_law_673 : decode cL_law 673 = .ok (.invokevirtual 100, 3) := by decide +kernel
theorem dL_law_676 : decode cL_law 676 = .ok (.aload_n 2, 1) := by decide +kernel
theorem dL_law_677 : decode cL_law 677 = .ok (.aload_n 0, 1) := by decide +kernel
theorem dL_law_678 : decode cL_law 678 = .ok (.iload_n 3, 1) := by decide +kernel
theorem dL_law_679 : decode cL_law 679 = .ok (.iconst 1, 1) := by decide +kernel
theorem dL_law_680 : decode cL_law 680 = .ok (.iadd, 1) := by decide +kernel
theorem dL_law_681 : decode cL_law 681 = .ok (.iaload, 1) := by decide +kernel
theorem dL_law_682 : decode cL_law 682 = .ok (.invokevirtual 103, 3) := by decide +kernel
theorem dL_law_685 : decode cL_law 685 = .ok (.if_icmp .eq 156, 3) := by decide +kernel
theorem dL_law_688 : decode cL_law 688 = .ok (.iconst 0, 1) := by decide +kernel
theorem dL_law_689 : decode cL_law 689 = .ok (.ireturn, 1) := by decide +kernel
theorem dL_law_690 : decode cL_law 690 = .ok (.aload_n 1, 1) := by decide +kernel
theorem dL_law_691 : decode cL_law 691 = .ok (.aload_n 0, 1) := by decide +kernel
theorem dL_law_692 : decode cL_law 692 = .ok (.iload_n 3, 1) := by decide +kernel
theorem dL_law_693 : decode cL_law 693 = .ok (.iconst 1, 1) := by decide +kernel
theorem dL_law_694 : decode cL_law 694 = .ok (.iadd, 1) := by decide +kernel
theorem dL_law_695 : decode cL_law 695 = .ok (.iaload, 1) := by decide +kernel
theorem dL_law_696 : decode cL_law 696 = .ok (.i2l, 1) := by decide +kernel
theorem dL_law_697 : decode cL_law 697 = .ok (.bipush 32, 2) := by decide +kernel
theorem dL_law_699 : decode cL_law 699 = .ok (.lshl, 1) := by decide +kernel
theorem dL_law_700 : decode cL_law 700 = .ok (.aload_n 0, 1) := by decide +kernel
theorem dL_law_701 : decode cL_law 701 = .ok (.iload_n 3, 1) := by decide +kernel
theorem dL_law_702 : decode cL_law 702 = .ok (.iconst 2, 1) := by decide +kernel
theorem dL_law_703 : decode cL_law 703 = .ok (.iadd, 1) := by decide +kernel
theorem dL_law_704 : decode cL_law 704 = .ok (.iaload, 1) := by decide +kernel
theorem dL_law_705 : decode cL_law 705 = .ok (.i2l, 1) := by decide +kernel
theorem dL_law_706 : decode cL_law 706 = .ok (.ldc2_w 104, 3) := by decide +kernel
theorem dL_law_709 : decode cL_law 709 = .ok (.land, 1) := by decide +kernel
theorem dL_law_710 : decode cL_law 710 = .ok (.lor, 1) := by decide +kernel
theorem dL_law_711 : decode cL_law 711 = .ok (.invokevirtual 106, 3) := by decide +kernel
theorem dL_law_714 : decode cL_law 714 = .ok (.aload_n 2, 1) := by decide +kernel
theorem dL_law_715 : decode cL_law 715 = .ok (.aload_n 0, 1) := by decide +kernel
theorem dL_law_716 : decode cL_law 716 = .ok (.iload_n 3, 1) := by decide +kernel
theorem dL_law_717 : decode cL_law 717 = .ok (.iconst 1, 1) := by decide +kernel
theorem dL_law_718 : decode cL_law 718 = .ok (.iadd, 1) := by decide +kernel
theorem dL_law_719 : decode cL_law 719 = .ok (.iaload, 1) := by decide +kernel
theorem dL_law_720 : decode cL_law 720 = .ok (.i2l, 1) := by decide +kernel
theorem dL_law_721 : decode cL_law 721 = .ok (.bipush 32, 2) := by decide +kernel
theorem dL_law_723 : decode cL_law 723 = .ok (.lshl, 1) := by decide +kernel
theorem dL_law_724 : decode cL_law 724 = .ok (.aload_n 0, 1) := by decide +kernel
theorem dL_law_725 : decode cL_law 725 = .ok (.iload_n 3, 1) := by decide +kernel
theorem dL_law_726 : decode cL_law 726 = .ok (.iconst 2, 1) := by decide +kernel
theorem dL_law_727 : decode cL_law 727 = .ok (.iadd, 1) := by decide +kernel
theorem dL_law_728 : decode cL_law 728 = .ok (.iaload, 1) := by decide +kernel
theorem dL_law_729 : decode cL_law 729 = .ok (.i2l, 1) := by decide +kernel
theorem dL_law_730 : decode cL_law 730 = .ok (.ldc2_w 104, 3) := by decide +kernel
theorem dL_law_733 : decode cL_law 733 = .ok (.land, 1) := by decide +kernel
theorem dL_law_734 : decode cL_law 734 = .ok (.lor, 1) := by decide +kernel
theorem dL_law_735 : decode cL_law 735 = .ok (.invokevirtual 110, 3) := by decide +kernel
theorem dL_law_738 : decode cL_law 738 = .ok (.if_icmp .eq 103, 3) := by decide +kernel
theorem dL_law_741 : decode cL_law 741 = .ok (.iconst 0, 1) := by decide +kernel
theorem dL_law_742 : decode cL_law 742 = .ok (.ireturn, 1) := by decide +kernel
theorem dL_law_743 : decode cL_law 743 = .ok (.aload_n 1, 1) := by decide +kernel
theorem dL_law_744 : decode cL_law 744 = .ok (.invokevirtual 111, 3) := by decide +kernel
theorem dL_law_747 : decode cL_law 747 = .ok (.aload_n 2, 1) := by decide +kernel
theorem dL_law_748 : decode cL_law 748 = .ok (.invokevirtual 114, 3) := by decide +kernel
theorem dL_law_751 : decode cL_law 751 = .ok (.if_icmp .eq 90, 3) := by decide +kernel
theorem dL_law_754 : decode cL_law 754 = .ok (.iconst 0, 1) := by decide +kernel
theorem dL_law_755 : decode cL_law 755 = .ok (.ireturn, 1) := by decide +kernel
theorem dL_law_756 : decode cL_law 756 = .ok (.aload_n 1, 1) := by decide +kernel
theorem dL_law_757 : decode cL_law 757 = .ok (.invokevirtual 115, 3) := by decide +kernel
theorem dL_law_760 : decode cL_law 760 = .ok (.aload_n 2, 1) := by decide +kernel
theorem dL_law_761 : decode cL_law 761 = .ok (.invokevirtual 118, 3) := by decide +kernel
theorem dL_law_764 : decode cL_law 764 = .ok (.if_icmp .eq 77, 3) := by decide +kernel
theorem dL_law_767 : decode cL_law 767 = .ok (.iconst 0, 1) := by decide +kernel
theorem dL_law_768 : decode cL_law 768 = .ok (.ireturn, 1) := by decide +kernel
theorem dL_law_769 : decode cL_law 769 = .ok (.aload_n 1, 1) := by decide +kernel
theorem dL_law_770 : decode cL_law 770 = .ok (.invokevirtual 119, 3) := by decide +kernel
theorem dL_law_773 : decode cL_law 773 = .ok (.aload_n 2, 1) := by decide +kernel
theorem dL_law_774 : decode cL_law 774 = .ok (.invokevirtual 122, 3) := by decide +kernel
theorem dL_law_777 : decode cL_law 777 = .ok (.if_icmp .eq 64, 3) := by decide +kernel
theorem dL_law_780 : decode cL_law 780 = .ok (.iconst 0, 1) := by decide +kernel
theorem dL_law_781 : decode cL_law 781 = .ok (.ireturn, 1) := by decide +kernel
theorem dL_law_782 : decode cL_law 782 = .ok (.aload_n 1, 1) := by decide +kernel
theorem dL_law_783 : decode cL_law 783 = .ok (.invokevirtual 123, 3) := by decide +kernel
theorem dL_law_786 : decode cL_law 786 = .ok (.aload_n 2, 1) := by decide +kernel
theorem dL_law_787 : decode cL_law 787 = .ok (.invokevirtual 126, 3) := by decide +kernel
theorem dL_law_790 : decode cL_law 790 = .ok (.if_icmp .eq 51, 3) := by decide +kernel
theorem dL_law_793 : decode cL_law 793 = .ok (.iconst 0, 1) := by decide +kernel
theorem dL_law_794 : decode cL_law 794 = .ok (.ireturn, 1) := by decide +kernel
theorem dL_law_795 : decode cL_law 795 = .ok (.aload_n 1, 1) := by decide +kernel
theorem dL_law_796 : decode cL_law 796 = .ok (.aload_n 0, 1) := by decide +kernel
theorem dL_law_797 : decode cL_law 797 = .ok (.iload_n 3, 1) := by decide +kernel
theorem dL_law_798 : decode cL_law 798 = .ok (.iconst 1, 1) := by decide +kernel
theorem dL_law_799 : decode cL_law 799 = .ok (.iadd, 1) := by decide +kernel
theorem dL_law_800 : decode cL_law 800 = .ok (.iaload, 1) := by decide +kernel
theorem dL_law_801 : decode cL_law 801 = .ok (.invokevirtual 127, 3) := by decide +kernel
theorem dL_law_804 : decode cL_law 804 = .ok (.aload_n 2, 1) := by decide +kernel
theorem dL_law_805 : decode cL_law 805 = .ok (.aload_n 0, 1) := by decide +kernel
theorem dL_law_806 : decode cL_law 806 = .ok (.iload_n 3, 1) := by decide +kernel
theorem dL_law_807 : decode cL_law 807 = .ok (.iconst 1, 1) := by decide +kernel
theorem dL_law_808 : decode cL_law 808 = .ok (.iadd, 1) := by decide +kernel
theorem dL_law_809 : decode cL_law 809 = .ok (.iaload, 1) := by decide +kernel
theorem dL_law_810 : decode cL_law 810 = .ok (.invokevirtual 130, 3) := by decide +kernel
theorem dL_law_813 : decode cL_law 813 = .ok (.if_icmp .eq 28, 3) := by decide +kernel
theorem dL_law_816 : decode cL_law 816 = .ok (.iconst 0, 1) := by decide +kernel
theorem dL_law_817 : decode cL_law 817 = .ok (.ireturn, 1) := by decide +kernel
theorem dL_law_818 : decode cL_law 818 = .ok (.aload_n 1, 1) := by decide +kernel
theorem dL_law_819 : decode cL_law 819 = .ok (.aload_n 0, 1) := by decide +kernel
theorem dL_law_820 : decode cL_law 820 = .ok (.iload_n 3, 1) := by decide +kernel
theorem dL_law_821 : decode cL_law 821 = .ok (.iconst 1, 1) := by decide +kernel
theorem dL_law_822 : decode cL_law 822 = .ok (.iadd, 1) := by decide +kernel
theorem dL_law_823 : decode cL_law 823 = .ok (.iaload, 1) := by decide +kernel
theorem dL_law_824 : decode cL_law 824 = .ok (.invokevirtual 131, 3) := by decide +kernel
theorem dL_law_827 : decode cL_law 827 = .ok (.aload_n 2, 1) := by decide +kernel
theorem dL_law_828 : decode cL_law 828 = .ok (.aload_n 0, 1) := by decide +kernel
theorem dL_law_829 : decode cL_law 829 = .ok (.iload_n 3, 1) := by decide +kernel
theorem dL_law_830 : decode cL_law 830 = .ok (.iconst 1, 1) := by decide +kernel
theorem dL_law_831 : decode cL_law 831 = .ok (.iadd, 1) := by decide +kernel
theorem dL_law_832 : decode cL_law 832 = .ok (.iaload, 1) := by decide +kernel
theorem dL_law_833 : decode cL_law 833 = .ok (.invokevirtual 134, 3) := by decide +kernel
theorem dL_law_836 : decode cL_law 836 = .ok (.if_icmp .eq 5, 3) := by decide +kernel
theorem dL_law_839 : decode cL_law 839 = .ok (.iconst 0, 1) := by decide +kernel
theorem dL_law_840 : decode cL_law 840 = .ok (.ireturn, 1) := by decide +kernel
theorem dL_law_841 : decode cL_law 841 = .ok (.iinc 3 3, 3) := by decide +kernel
theorem dL_law_844 : decode cL_law 844 = .ok (.goto (-826), 3) := by decide +kernel
theorem dL_law_847 : decode cL_law 847 = .ok (.iconst 1, 1) := by decide +kernel
theorem dL_law_848 : decode cL_law 848 = .ok (.ireturn, 1) := by decide +kernel
