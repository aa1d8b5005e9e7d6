set_option maxRecDepth 20000 in
theorem ggX0_init_X5_init : GoodIn wsX0_init wsX5_init := goodIn_r _ [14, 15, 2, 3, 16, 17, 18, 19, 20, 21, 22] (by decide +kernel) (by decide +kernel)
set_option maxRecDepth 20000 in
theorem gX0_init_X5_init : GoodIn wsX0_init (wsX5_init) := ggX0_init_X5_init
theorem dX0_init_0 : decode cX0_init 0 = .ok (.aload_n 0, 1) := by decide +kernel
theorem dX0_init_1 : decode cX0_init 1 = .ok (.invokespecial 3, 3) := by decide +kernel
theorem dX0_init_4 : decode cX0_init 4 = .ok (.aload_n 0, 1) := by decide +kernel
theorem dX0_init_5 : decode cX0_init 5 = .ok (.new 9, 3) := by decide +kernel
theorem dX0_init_8 : decode cX0_init 8 = .ok (.dup, 1) := by decide +kernel
theorem dX0_init_9 : decode cX0_init 9 = .ok (.bipush 8, 2) := by decide +kernel
theorem dX0_init_11 : decode cX0_init 11 = .ok (.invokespecial 11, 3) := by decide +kernel
theorem dX0_init_14 : decode cX0_init 14 = .ok (.putfield 14, 3) := by decide +kernel
theorem dX0_init_17 : decode cX0_init 17 = .ok (.aload_n 0, 1) := by decide +kernel
theorem dX0_init_18 : decode cX0_init 18 = .ok (.new 9, 3) := by decide +kernel
theorem dX0_init_21 : decode cX0_init 21 = .ok (.dup, 1) := by decide +kernel
theorem dX0_init_22 : decode cX0_init 22 = .ok (.bipush 8, 2) := by decide +kernel
theorem dX0_init_24 : decode cX0_init 24 = .ok (.invokespecial 11, 3) := by decide +kernel
theorem dX0_init_27 : decode cX0_init 27 = .ok (.putfield 20, 3) := by decide +kernel
theorem dX0_init_30 : decode cX0_init 30 = .ok (.aload_n 0, 1) := by decide +kernel
theorem dX0_init_31 : decode cX0_init 31 = .ok (.new 9, 3) := by decide +kernel
theorem dX0_init_34 : decode cX0_init 34 = .ok (.dup, 1) := by decide +kernel
theorem dX0_init_35 : decode cX0_init 35 = .ok (.bipush 6, 2) := by decide +kernel
theorem dX0_init_37 : decode cX0_init 37 = .ok (.invokespecial 11, 3) := by decide +kernel
theorem dX0_init_40 : decode cX0_init 40 = .ok (.putfield 23, 3) := by decide +kernel
theorem dX0_init_43 : decode cX0_init 43 = .ok (.aload_n 0, 1) := by decide +kernel
theorem dX0_init_44 : decode cX0_init 44 = .ok (.new 9, 3) := by decide +kernel
theorem dX0_init_47 : decode cX0_init 47 = .ok (.dup, 1) := by decide +kernel
theorem dX0_init_48 : decode cX0_init 48 = .ok (.bipush 6, 2) := by decide +kernel
theorem dX0_init_50 : decode cX0_init 50 = .ok (.invokespecial 11, 3) := by decide +kernel
theorem dX0_init_53 : decode cX0_init 53 = .ok (.putfield 26, 3) := by decide +kernel
theorem dX0_init_56 : decode cX0_init 56 = .ok (.aload_n 0, 1) := by decide +kernel
theorem dX0_init_57 : decode cX0_init 57 = .ok (.new 9, 3) := by decide +kernel
theorem dX0_init_60 : decode cX0_init 60 = .ok (.dup, 1) := by decide +kernel
theorem dX0_init_61 : decode cX0_init 61 = .ok (.bipush 6, 2) := by decide +kernel
theorem dX0_init_63 : decode cX0_init 63 = .ok (.invokespecial 11, 3) := by decide +kernel
theorem dX0_init_66 : decode cX0_init 66 = .ok (.putfield 29, 3) := by decide +kernel
theorem dX0_init_69 : decode cX0_init 69 = .ok (.return_, 1) := by decide +kernel
set_option maxRecDepth 20000 in
theorem ggX0_copyFrom_X5_copyFrom : GoodIn wsX0_copyFrom wsX5_copyFrom := goodIn_r _ [11, 12, 13, 14, 15, 16, 17, 18, 19, 20, 27] (by decide +kernel) (by decide +kernel)
set_option maxRecDepth 20000 in
theorem gX0_copyFrom_X5_copyFrom : GoodIn wsX0_copyFrom (wsV RX0 32 RX5 yX5_copyFrom wsX5_copyFrom) := goodIn_app (goodIn_of _ (by decide +kernel)) ggX0_copyFrom_X5_copyFrom
theorem dX0_copyFrom_0 : decode cX0_copyFrom 0 = .ok (.aload_n 0, 1) := by decide +kernel
theorem dX0_copyFrom_1 : decode cX0_copyFrom 1 = .ok (.getfield 14, 3) := by decide +kernel
theorem dX0_copyFrom_4 : decode cX0_copyFrom 4 = .ok (.aload_n 1, 1) := by decide +kernel
theorem dX0_copyFrom_5 : decode cX0_copyFrom 5 = .ok (.getfield 14, 3) := by decide +kernel
theorem dX0_copyFrom_8 : decode cX0_copyFrom 8 = .ok (.invokevirtual 32, 3) := by decide +kernel
theorem dX0_copyFrom_11 : decode cX0_copyFrom 11 = .ok (.aload_n 0, 1) := by decide +kernel
theorem dX0_copyFrom_12 : decode cX0_copyFrom 12 = .ok (.getfield 20, 3) := by decide +kernel
theorem dX0_copyFrom_15 : decode cX0_copyFrom 15 = .ok (.aload_n 1, 1) := by decide +kernel
theorem dX0_copyFrom_16 : decode cX0_copyFrom 16 = .ok (.getfield 20, 3) := by decide +kernel
theorem dX0_copyFrom_19 : decode cX0_copyFrom 19 = .ok (.invokevirtual 32, 3) := by decide +kernel
theorem dX0_copyFrom_22 : decode cX0_copyFrom 22 = .ok (.aload_n 0, 1) := by decide +kernel
theorem dX0_copyFrom_23 : decode cX0_copyFrom 23 = .ok (.getfield 23, 3) := by decide +kernel
theorem dX0_copyFrom_26 : decode cX0_copyFrom 26 = .ok (.aload_n 1, 1) := by decide +kernel
theorem dX0_copyFrom_27 : decode cX0_copyFrom 27 = .ok (.getfield 23, 3) := by decide +kernel
theorem dX0_copyFrom_30 : decode cX0_copyFrom 30 = .ok (.invokevirtual 32, 3) := by decide +kernel
theorem dX0_copyFrom_33 : decode cX0_copyFrom 33 = .ok (.aload_n 0, 1) := by decide +kernel
theorem dX0_copyFrom_34 : decode cX0_copyFrom 34 = .ok (.getfield 26, 3) := by decide +kernel
theorem dX0_copyFrom_37 : decode cX0_copyFrom 37 = .ok (.aload_n 1, 1) := by decide +kernel
theorem dX0_copyFrom_38 : decode cX0_copyFrom 38 = .ok (.getfield 26, 3) := by decide +kernel
theorem dX0_copyFrom_41 : decode cX0_copyFrom 41 = .ok (.invokevirtual 32, 3) := by decide +kernel
theorem dX0_copyFrom_44 : decode cX0_copyFrom 44 = .ok (.aload_n 0, 1) := by decide +kernel
theorem dX0_copyFrom_45 : decode cX0_copyFrom 45 = .ok (.getfield 29, 3) := by decide +kernel
theorem dX0_copyFrom_48 : decode cX0_copyFrom 48 = .ok (.aload_n 1, 1) := by decide +kernel
theorem dX0_copyFrom_49 : decode cX0_copyFrom 49 = .ok (.getfield 29, 3) := by decide +kernel
theorem dX0_copyFrom_52 : decode cX0_copyFrom 52 = .ok (.invokevirtual 32, 3) := by decide +kernel
theorem dX0_copyFrom_55 : decode cX0_copyFrom 55 = .ok (.aload_n 0, 1) := by decide +kernel
theorem dX0_copyFrom_56 : decode cX0_copyFrom 56 = .ok (.aload_n 1, 1) := by decide +kernel
theorem dX0_copyFrom_57 : decode cX0_copyFrom 57 = .ok (.getfield 36, 3) := by decide +kernel
theorem dX0_copyFrom_60 : decode cX0_copyFrom 60 = .ok (.putfield 36, 3) := by decide +kernel
theorem dX0_copyFrom_63 : decode cX0_copyFrom 63 = .ok (.return_, 1) := by decide +kernel
set_option maxRecDepth 20000 in
theorem ggX0_owe_X5_add : GoodIn wsX0_owe wsX5_add := goodIn_r _ [9, 10, 21] (by decide +kernel) (by decide +kernel)
set_option maxRecDepth 20000 in
theorem gX0_owe_X5_add : GoodIn wsX0_owe (wsV RX0 40 RX5 yX5_add wsX5_add) := goodIn_app (goodIn_of _ (by decide +kernel)) ggX0_owe_X5_add
set_option maxRecDepth 20000 in
theorem ggX0_owe_X5_store : GoodIn wsX0_owe wsX5_store := goodIn_r _ [14, 10, 21] (by decide +kernel) (by decide +kernel)
set_option maxRecDepth 20000 in
theorem gX0_owe_X5_store : GoodIn wsX0_owe (wsV RX0 44 RX5 yX5_store wsX5_store) := goodIn_app (goodIn_of _ (by decide +kernel)) ggX0_owe_X5_store
theorem dX0_owe_0 : decode cX0_owe 0 = .ok (.aload_n 0, 1) := by decide +kernel
theorem dX0_owe_1 : decode cX0_owe 1 = .ok (.getfield 36, 3) := by decide +kernel
theorem dX0_owe_4 : decode cX0_owe 4 = .ok (.bipush 8, 2) := by decide +kernel
theorem dX0_owe_6 : decode cX0_owe 6 = .ok (.if_icmp .lt 14, 3) := by decide +kernel
theorem dX0_owe_9 : decode cX0_owe 9 = .ok (.aload_n 0, 1) := by decide +kernel
theorem dX0_owe_10 : decode cX0_owe 10 = .ok (.getfield 26, 3) := by decide +kernel
theorem dX0_owe_13 : decode cX0_owe 13 = .ok (.iload_n 1, 1) := by decide +kernel
theorem dX0_owe_14 : decode cX0_owe 14 = .ok (.iconst 1, 1) := by decide +kernel
theorem dX0_owe_15 : decode cX0_owe 15 = .ok (.invokevirtual 40, 3) := by decide +kernel
theorem dX0_owe_18 : decode cX0_owe 18 = .ok (.iconst 0, 1) := by decide +kernel
theorem dX0_owe_19 : decode cX0_owe 19 = .ok (.ireturn, 1) := by decide +kernel
theorem dX0_owe_20 : decode cX0_owe 20 = .ok (.aload_n 0, 1) := by decide +kernel
theorem dX0_owe_21 : decode cX0_owe 21 = .ok (.getfield 14, 3) := by decide +kernel
theorem dX0_owe_24 : decode cX0_owe 24 = .ok (.aload_n 0, 1) := by decide +kernel
theorem dX0_owe_25 : decode cX0_owe 25 = .ok (.getfield 36, 3) := by decide +kernel
theorem dX0_owe_28 : decode cX0_owe 28 = .ok (.iload_n 1, 1) := by decide +kernel
theorem dX0_owe_29 : decode cX0_owe 29 = .ok (.invokevirtual 44, 3) := by decide +kernel
theorem dX0_owe_32 : decode cX0_owe 32 = .ok (.aload_n 0, 1) := by decide +kernel
theorem dX0_owe_33 : decode cX0_owe 33 = .ok (.getfield 20, 3) := by decide +kernel
theorem dX0_owe_36 : decode cX0_owe 36 = .ok (.aload_n 0, 1) := by decide +kernel
theorem dX0_owe_37 : decode cX0_owe 37 = .ok (.getfield 36, 3) := by decide +kernel
theorem dX0_owe_40 : decode cX0_owe 40 = .ok (.iload_n 2, 1) := by decide +kernel
theorem dX0_owe_41 : decode cX0_owe 41 = .ok (.invokevirtual 44, 3) := by decide +kernel
theorem dX0_owe_44 : decode cX0_owe 44 = .ok (.aload_n 0, 1) := by decide +kernel
theorem dX0_owe_45 : decode cX0_owe 45 = .ok (.dup, 1) := by decide +kernel
theorem dX0_owe_46 : decode cX0_owe 46 = .ok (.getfield 36, 3) := by decide +kernel
theorem dX0_owe_49 : decode cX0_owe 49 = .ok (.iconst 1, 1) := by decide +kernel
theorem dX0_owe_50 : decode cX0_owe 50 = .ok (.iadd, 1) := by decide +kernel
theorem dX0_owe_51 : decode cX0_owe 51 = .ok (.putfield 36, 3) := by decide +kernel
theorem dX0_owe_54 : decode cX0_owe 54 = .ok (.iconst 1, 1) := by decide +kernel
theorem dX0_owe_55 : decode cX0_owe 55 = .ok (.ireturn, 1) := by decide +kernel
set_option maxRecDepth 20000 in
theorem ggX0_lapseSince_X5_at : GoodIn wsX0_lapseSince wsX5_at := goodIn_r _ [9, 10, 25] (by decide +kernel) (by decide +kernel)
set_option maxRecDepth 20000 in
theorem gX0_lapseSince_X5_at : GoodIn wsX0_lapseSince (wsV RX0 47 RX5 yX5_at wsX5_at) := goodIn_app (goodIn_of _ (by decide +kernel)) ggX0_lapseSince_X5_at
set_option maxRecDepth 20000 in
theorem ggX0_lapseSince_X5_add : GoodIn wsX0_lapseSince wsX5_add := goodIn_r _ [14, 10, 25] (by decide +kernel) (by decide +kernel)
set_option maxRecDepth 20000 in
theorem gX0_lapseSince_X5_add : GoodIn wsX0_lapseSince (wsV RX0 40 RX5 yX5_add wsX5_add) := goodIn_app (goodIn_of _ (by decide +kernel)) ggX0_lapseSince_X5_add
set_option maxRecDepth 20000 in
theorem ggX0_lapseSince_X5_store : GoodIn wsX0_lapseSince wsX5_store := goodIn_r _ [18, 10, 25] (by decide +kernel) (by decide +kernel)
set_option maxRecDepth 20000 in
theorem gX0_lapseSince_X5_store : GoodIn wsX0_lapseSince (wsV RX0 44 RX5 yX5_store wsX5_store) := goodIn_app (goodIn_of _ (by decide +kernel)) ggX0_lapseSince_X5_store
theorem dX0_lapseSince_0 : decode cX0_lapseSince 0 = .ok (.iconst 0, 1) := by decide +kernel
theorem dX0_lapseSince_1 : decode cX0_lapseSince 1 = .ok (.istore_n 2, 1) := by decide +kernel
theorem dX0_lapseSince_2 : decode cX0_lapseSince 2 = .ok (.iconst 0, 1) := by decide +kernel
theorem dX0_lapseSince_3 : decode cX0_lapseSince 3 = .ok (.istore_n 3, 1) := by decide +kernel
theorem dX0_lapseSince_4 : decode cX0_lapseSince 4 = .ok (.iload_n 3, 1) := by decide +kernel
theorem dX0_lapseSince_5 : decode cX0_lapseSince 5 = .ok (.aload_n 0, 1) := by decide +kernel
theorem dX0_lapseSince_6 : decode cX0_lapseSince 6 = .ok (.getfield 36, 3) := by decide +kernel
theorem dX0_lapseSince_9 : decode cX0_lapseSince 9 = .ok (.if_icmp .ge 75, 3) := by decide +kernel
theorem dX0_lapseSince_12 : decode cX0_lapseSince 12 = .ok (.aload_n 0, 1) := by decide +kernel
theorem dX0_lapseSince_13 : decode cX0_lapseSince 13 = .ok (.getfield 20, 3) := by decide +kernel
theorem dX0_lapseSince_16 : decode cX0_lapseSince 16 = .ok (.iload_n 3, 1) := by decide +kernel
theorem dX0_lapseSince_17 : decode cX0_lapseSince 17 = .ok (.invokevirtual 47, 3) := by decide +kernel
theorem dX0_lapseSince_20 : decode cX0_lapseSince 20 = .ok (.iload_n 1, 1) := by decide +kernel
theorem dX0_lapseSince_21 : decode cX0_lapseSince 21 = .ok (.if_icmp .gt 22, 3) := by decide +kernel
theorem dX0_lapseSince_24 : decode cX0_lapseSince 24 = .ok (.aload_n 0, 1) := by decide +kernel
theorem dX0_lapseSince_25 : decode cX0_lapseSince 25 = .ok (.getfield 26, 3) := by decide +kernel
theorem dX0_lapseSince_28 : decode cX0_lapseSince 28 = .ok (.aload_n 0, 1) := by decide +kernel
theorem dX0_lapseSince_29 : decode cX0_lapseSince 29 = .ok (.getfield 14, 3) := by decide +kernel
theorem dX0_lapseSince_32 : decode cX0_lapseSince 32 = .ok (.iload_n 3, 1) := by decide +kernel
theorem dX0_lapseSince_33 : decode cX0_lapseSince 33 = .ok (.invokevirtual 47, 3) := by decide +kernel
theorem dX0_lapseSince_36 : decode cX0_lapseSince 36 = .ok (.iconst 1, 1) := by decide +kernel
theorem dX0_lapseSince_37 : decode cX0_lapseSince 37 = .ok (.invokevirtual 40, 3) := by decide +kernel
theorem dX0_lapseSince_40 : decode cX0_lapseSince 40 = .ok (.goto 38, 3) := by decide +kernel
theorem dX0_lapseSince_43 : decode cX0_lapseSince 43 = .ok (.aload_n 0, 1) := by decide +kernel
theorem dX0_lapseSince_44 : decode cX0_lapseSince 44 = .ok (.getfield 14, 3) := by decide +kernel
theorem dX0_lapseSince_47 : decode cX0_lapseSince 47 = .ok (.iload_n 2, 1) := by decide +kernel
theorem dX0_lapseSince_48 : decode cX0_lapseSince 48 = .ok (.aload_n 0, 1) := by decide +kernel
theorem dX0_lapseSince_49 : decode cX0_lapseSince 49 = .ok (.getfield 14, 3) := by decide +kernel
theorem dX0_lapseSince_52 : decode cX0_lapseSince 52 = .ok (.iload_n 3, 1) := by decide +kernel
theorem dX0_lapseSince_53 : decode cX0_lapseSince 53 = .ok (.invokevirtual 47, 3) := by decide +kernel
theorem dX0_lapseSince_56 : decode cX0_lapseSince 56 = .ok (.invokevirtual 44, 3) := by decide +kernel
theorem dX0_lapseSince_59 : decode cX0_lapseSince 59 = .ok (.aload_n 0, 1) := by decide +kernel
theorem dX0_lapseSince_60 : decode cX0_lapseSince 60 = .ok (.getfield 20, 3) := by decide +kernel
theorem dX0_lapseSince_63 : decode cX0_lapseSince 63 = .ok (.iload_n 2, 1) := by decide +kernel
theorem dX0_lapseSince_64 : decode cX0_lapseSince 64 = .ok (.aload_n 0, 1) := by decide +kernel
theorem dX0_lapseSince_65 : decode cX0_lapseSince 65 = .ok (.getfield 20, 3) := by decide +kernel
theorem dX0_lapseSince_68 : decode cX0_lapseSince 68 = .ok (.iload_n 3, 1) := by decide +kernel
theorem dX0_lapseSince_69 : decode cX0_lapseSince 69 = .ok (.invokevirtual 47, 3) := by decide +kernel
theorem dX0_lapseSince_72 : decode cX0_lapseSince 72 = .ok (.invokevirtual 44, 3) := by decide +kernel
theorem dX0_lapseSince_75 : decode cX0_lapseSince 75 = .ok (.iinc 2 1, 3) := by decide +kernel
theorem dX0_lapseSince_78 : decode cX0_lapseSince 78 = .ok (.iinc 3 1, 3) := by decide +kernel
theorem dX0_lapseSince_81 : decode cX0_lapseSince 81 = .ok (.goto (-77), 3) := by decide +kernel
theorem dX0_lapseSince_84 : decode cX0_lapseSince 84 = .ok (.aload_n 0, 1) := by decide +kernel
theorem dX0_lapseSince_85 : decode cX0_lapseSince 85 = .ok (.getfield 36, 3) := by decide +kernel
theorem dX0_lapseSince_88 : decode cX0_lapseSince 88 = .ok (.iload_n 2, 1) := by decide +kernel
theorem dX0_lapseSince_89 : decode cX0_lapseSince 89 = .ok (.isub, 1) := by decide +kernel
theorem dX0_lapseSince_90 : decode cX0_lapseSince 90 = .ok (.istore_n 3, 1) := by decide +kernel
theorem dX0_lapseSince_91 : decode cX0_lapseSince 91 = .ok (.aload_n 0, 1) := by decide +kernel
theorem dX0_lapseSince_92 : decode cX0_lapseSince 92 = .ok (.iload_n 2, 1) := by decide +kernel
theorem dX0_lapseSince_93 : decode cX0_lapseSince 93 = .ok (.putfield 36, 3) := by decide +kernel
theorem dX0_lapseSince_96 : decode cX0_lapseSince 96 = .ok (.iload_n 3, 1) := by decide +kernel
theorem dX0_lapseSince_97 : decode cX0_lapseSince 97 = .ok (.ireturn, 1) := by decide +kernel
set_option maxRecDepth 20000 in
theorem ggX0_earliestOf_X5_at : GoodIn wsX0_earliestOf wsX5_at := goodIn_r _ [7, 8, 15] (by decide +kernel) (by decide +kernel)
set_option maxRecDepth 20000 in
theorem gX0_earliestOf_X5_at : GoodIn wsX0_earliestOf (wsV RX0 47 RX5 yX5_at wsX5_at) := goodIn_app (goodIn_of _ (by decide +kernel)) ggX0_earliestOf_X5_at
theorem dX0_earliestOf_0 : decode cX0_earliestOf 0 = .ok (.iconst 0, 1) := by decide +kernel
theorem dX0_earliestOf_1 : decode cX0_earliestOf 1 = .ok (.istore_n 2, 1) := by decide +kernel
theorem dX0_earliestOf_2 : decode cX0_earliestOf 2 = .ok (.iload_n 2, 1) := by decide +kernel
theorem dX0_earliestOf_3 : decode cX0_earliestOf 3 = .ok (.aload_n 0, 1) := by decide +kernel
theorem dX0_earliestOf_4 : decode cX0_earliestOf 4 = .ok (.getfield 36, 3) := by decide +kernel
theorem dX0_earliestOf_7 : decode cX0_earliestOf 7 = .ok (.if_icmp .ge 23, 3) := by decide +kernel
theorem dX0_earliestOf_10 : decode cX0_earliestOf 10 = .ok (.aload_n 0, 1) := by decide +kernel
theorem dX0_earliestOf_11 : decode cX0_earliestOf 11 = .ok (.getfield 14, 3) := by decide +kernel
theorem dX0_earliestOf_14 : decode cX0_earliestOf 14 = .ok (.iload_n 2, 1) := by decide +kernel
theorem dX0_earliestOf_15 : decode cX0_earliestOf 15 = .ok (.invokevirtual 47, 3) := by decide +kernel
theorem dX0_earliestOf_18 : decode cX0_earliestOf 18 = .ok (.iload_n 1, 1) := by decide +kernel
theorem dX0_earliestOf_19 : decode cX0_earliestOf 19 = .ok (.if_icmp .ne 5, 3) := by decide +kernel
theorem dX0_earliestOf_22 : decode cX0_earliestOf 22 = .ok (.iload_n 2, 1) := by decide +kernel
theorem dX0_earliestOf_23 : decode cX0_earliestOf 23 = .ok (.ireturn, 1) := by decide +kernel
theorem dX0_earliestOf_24 : decode cX0_earliestOf 24 = .ok (.iinc 2 1, 3) := by decide +kernel
theorem dX0_earliestOf_27 : decode cX0_earliestOf 27 = .ok (.goto (-25), 3) := by decide +kernel
theorem dX0_earliestOf_30 : decode cX0_earliestOf 30 = .ok (.bipush (-6), 2) := by decide +kernel
theorem dX0_earliestOf_32 : decode cX0_earliestOf 32 = .ok (.ireturn, 1) := by decide +kernel
set_option maxRecDepth 20000 in
theorem ggX0_owedBy_X5_at : GoodIn wsX0_owedBy wsX5_at := goodIn_r _ [7, 8, 15] (by decide +kernel) (by decide +kernel)
set_option maxRecDepth 20000 in
theorem gX0_owedBy_X5_at : GoodIn wsX0_owedBy (wsV RX0 47 RX5 yX5_at wsX5_at) := goodIn_app (goodIn_of _ (by decide +kernel)) ggX0_owedBy_X5_at
theorem dX0_owedBy_0 : decode cX0_owedBy 0 = .ok (.iconst 0, 1) := by decide +kernel
theorem dX0_owedBy_1 : decode cX0_owedBy 1 = .ok (.istore_n 2, 1) := by decide +kernel
theorem dX0_owedBy_2 : decode cX0_owedBy 2 = .ok (.iconst 0, 1) := by decide +kernel
theorem dX0_owedBy_3 : decode cX0_owedBy 3 = .ok (.istore_n 3, 1) := by decide +kernel
theorem dX0_owedBy_4 : decode cX0_owedBy 4 = .ok (.iload_n 3, 1) := by decide +kernel
theorem dX0_owedBy_5 : decode cX0_owedBy 5 = .ok (.aload_n 0, 1) := by decide +kernel
theorem dX0_owedBy_6 : decode cX0_owedBy 6 = .ok (.getfield 36, 3) := by decide +kernel
theorem dX0_owedBy_9 : decode cX0_owedBy 9 = .ok (.if_icmp .ge 24, 3) := by decide +kernel
theorem dX0_owedBy_12 : decode cX0_owedBy 12 = .ok (.aload_n 0, 1) := by decide +kernel
theorem dX0_owedBy_13 : decode cX0_owedBy 13 = .ok (.getfield 14, 3) := by decide +kernel
theorem dX0_owedBy_16 : decode cX0_owedBy 16 = .ok (.iload_n 3, 1) := by decide +kernel
theorem dX0_owedBy_17 : decode cX0_owedBy 17 = .ok (.invokevirtual 47, 3) := by decide +kernel
theorem dX0_owedBy_20 : decode cX0_owedBy 20 = .ok (.iload_n 1, 1) := by decide +kernel
theorem dX0_owedBy_21 : decode cX0_owedBy 21 = .ok (.if_icmp .ne 6, 3) := by decide +kernel
theorem dX0_owedBy_24 : decode cX0_owedBy 24 = .ok (.iinc 2 1, 3) := by decide +kernel
theorem dX0_owedBy_27 : decode cX0_owedBy 27 = .ok (.iinc 3 1, 3) := by decide +kernel
theorem dX0_owedBy_30 : decode cX0_owedBy 30 = .ok (.goto (-26), 3) := by decide +kernel
theorem dX0_owedBy_33 : decode cX0_owedBy 33 = .ok (.iload_n 2, 1) := by decide +kernel
theorem dX0_owedBy_34 : decode cX0_owedBy 34 = .ok (.ireturn, 1) := by decide +kernel
set_option maxRecDepth 20000 in
theorem ggX0_playEarliestOf_X0_earliestOf : GoodIn wsX0_playEarliestOf wsX0_earliestOf := goodIn_r _ [9, 1, 2, 10, 11, 12, 13, 14, 15, 24, 25, 26, 27, 28, 29, 30] (by decide +kernel) (by decide +kernel)
set_option maxRecDepth 20000 in
theorem gX0_playEarliestOf_X0_earliestOf : GoodIn wsX0_playEarliestOf (wsV RX0 51 RX0 yX0_earliestOf wsX0_earliestOf) := goodIn_app (goodIn_of _ (by decide +kernel)) ggX0_playEarliestOf_X0_earliestOf
set_option maxRecDepth 20000 in
theorem ggX0_playEarliestOf_X5_at : GoodIn wsX0_playEarliestOf wsX5_at := goodIn_r _ [14, 15, 30] (by decide +kernel) (by decide +kernel)
set_option maxRecDepth 20000 in
theorem gX0_playEarliestOf_X5_at : GoodIn wsX0_playEarliestOf (wsV RX0 47 RX5 yX5_at wsX5_at) := goodIn_app (goodIn_of _ (by decide +kernel)) ggX0_playEarliestOf_X5_at
set_option maxRecDepth 20000 in
theorem ggX0_playEarliestOf_X5_store : GoodIn wsX0_playEarliestOf wsX5_store := goodIn_r _ [19, 15, 30] (by decide +kernel) (by decide +kernel)
set_option maxRecDepth 20000 in
theorem gX0_playEarliestOf_X5_store : GoodIn wsX0_playEarliestOf (wsV RX0 44 RX5 yX5_store wsX5_store) := goodIn_app (goodIn_of _ (by decide +kernel)) ggX0_playEarliestOf_X5_store
set_option maxRecDepth 20000 in
theorem ggX0_playEarliestOf_X5_add : GoodIn wsX0_playEarliestOf wsX5_add := goodIn_r _ [23, 15, 30] (by decide +kernel) (by decide +kernel)
set_option maxRecDepth 20000 in
theorem gX0_playEarliestOf_X5_add : GoodIn wsX0_playEarliestOf (wsV RX0 40 RX5 yX5_add wsX5_add) := goodIn_app (goodIn_of _ (by decide +kernel)) ggX0_playEarliestOf_X5_add
theorem dX0_playEarliestOf_0 : decode cX0_playEarliestOf 0 = .ok (.aload_n 0, 1) := by decide +kernel
theorem dX0_playEarliestOf_1 : decode cX0_playEarliestOf 1 = .ok (.iload_n 1, 1) := by decide +kernel
theorem dX0_playEarliestOf_2 : decode cX0_playEarliestOf 2 = .ok (.invokevirtual 51, 3) := by decide +kernel
theorem dX0_playEarliestOf_5 : decode cX0_playEarliestOf 5 = .ok (.istore_n 2, 1) := by decide +kernel
theorem dX0_playEarliestOf_6 : decode cX0_playEarliestOf 6 = .ok (.iload_n 2, 1) := by decide +kernel
theorem dX0_playEarliestOf_7 : decode cX0_playEarliestOf 7 = .ok (.bipush (-6), 2) := by decide +kernel
theorem dX0_playEarliestOf_9 : decode cX0_playEarliestOf 9 = .ok (.if_icmp .ne 5, 3) := by decide +kernel
theorem dX0_playEarliestOf_12 : decode cX0_playEarliestOf 12 = .ok (.iconst 0, 1) := by decide +kernel
theorem dX0_playEarliestOf_13 : decode cX0_playEarliestOf 13 = .ok (.ireturn, 1) := by decide +kernel
theorem dX0_playEarliestOf_14 : decode cX0_playEarliestOf 14 = .ok (.iload_n 2, 1) := by decide +kernel
theorem dX0_playEarliestOf_15 : decode cX0_playEarliestOf 15 = .ok (.iconst 1, 1) := by decide +kernel
theorem dX0_playEarliestOf_16 : decode cX0_playEarliestOf 16 = .ok (.iadd, 1) := by decide +kernel
theorem dX0_playEarliestOf_17 : decode cX0_playEarliestOf 17 = .ok (.istore_n 3, 1) := by decide +kernel
theorem dX0_playEarliestOf_18 : decode cX0_playEarliestOf 18 = .ok (.iload_n 3, 1) := by decide +kernel
theorem dX0_playEarliestOf_19 : decode cX0_playEarliestOf 19 = .ok (.aload_n 0, 1) := by decide +kernel
theorem dX0_playEarliestOf_20 : decode cX0_playEarliestOf 20 = .ok (.getfield 36, 3) := by decide +kernel
theorem dX0_playEarliestOf_23 : decode cX0_playEarliestOf 23 = .ok (.if_icmp .ge 45, 3) := by decide +kernel
theorem dX0_playEarliestOf_26 : decode cX0_playEarliestOf 26 = .ok (.aload_n 0, 1) := by decide +kernel
theorem dX0_playEarliestOf_27 : decode cX0_playEarliestOf 27 = .ok (.getfield 14, 3) := by decide +kernel
theorem dX0_playEarliestOf_30 : decode cX0_playEarliestOf 30 = .ok (.iload_n 3, 1) := by decide +kernel
theorem dX0_playEarliestOf_31 : decode cX0_playEarliestOf 31 = .ok (.iconst 1, 1) := by decide +kernel
theorem dX0_playEarliestOf_32 : decode cX0_playEarliestOf 32 = .ok (.isub, 1) := by decide +kernel
theorem dX0_playEarliestOf_33 : decode cX0_playEarliestOf 33 = .ok (.aload_n 0, 1) := by decide +kernel
theorem dX0_playEarliestOf_34 : decode cX0_playEarliestOf 34 = .ok (.getfield 14, 3) := by decide +kernel
theorem dX0_playEarliestOf_37 : decode cX0_playEarliestOf 37 = .ok (.iload_n 3, 1) := by decide +kernel
theorem dX0_playEarliestOf_38 : decode cX0_playEarliestOf 38 = .ok (.invokevirtual 47, 3) := by decide +kernel
theorem dX0_playEarliestOf_41 : decode cX0_playEarliestOf 41 = .ok (.invokevirtual 44, 3) := by decide +kernel
theorem dX0_playEarliestOf_44 : decode cX0_playEarliestOf 44 = .ok (.aload_n 0, 1) := by decide +kernel
theorem dX0_playEarliestOf_45 : decode cX0_playEarliestOf 45 = .ok (.getfield 20, 3) := by decide +kernel
theorem dX0_playEarliestOf_48 : decode cX0_playEarliestOf 48 = .ok (.iload_n 3, 1) := by decide +kernel
theorem dX0_playEarliestOf_49 : decode cX0_playEarliestOf 49 = .ok (.iconst 1, 1) := by decide +kernel
theorem dX0_playEarliestOf_50 : decode cX0_playEarliestOf 50 = .ok (.isub, 1) := by decide +kernel
theorem dX0_playEarliestOf_51 : decode cX0_playEarliestOf 51 = .ok (.aload_n 0, 1) := by decide +kernel
theorem dX0_playEarliestOf_52 : decode cX0_playEarliestOf 52 = .ok (.getfield 20, 3) := by decide +kernel
theorem dX0_playEarliestOf_55 : decode cX0_playEarliestOf 55 = .ok (.iload_n 3, 1) := by decide +kernel
theorem dX0_playEarliestOf_56 : decode cX0_playEarliestOf 56 = .ok (.invokevirtual 47, 3) := by decide +kernel
theorem dX0_playEarliestOf_59 : decode cX0_playEarliestOf 59 = .ok (.invokevirtual 44, 3) := by decide +kernel
theorem dX0_playEarliestOf_62 : decode cX0_playEarliestOf 62 = .ok (.iinc 3 1, 3) := by decide +kernel
theorem dX0_playEarliestOf_65 : decode cX0_playEarliestOf 65 = .ok (.goto (-47), 3) := by decide +kernel
theorem dX0_playEarliestOf_68 : decode cX0_playEarliestOf 68 = .ok (.aload_n 0, 1) := by decide +kernel
theorem dX0_playEarliestOf_69 : decode cX0_playEarliestOf 69 = .ok (.dup, 1) := by decide +kernel
theorem dX0_playEarliestOf_70 : decode cX0_playEarliestOf 70 = .ok (.getfield 36, 3) := by decide +kernel
theorem dX0_playEarliestOf_73 : decode cX0_playEarliestOf 73 = .ok (.iconst 1, 1) := by decide +kernel
theorem dX0_playEarliestOf_74 : decode cX0_playEarliestOf 74 = .ok (.isub, 1) := by decide +kernel
theorem dX0_playEarliestOf_75 : decode cX0_playEarliestOf 75 = .ok (.putfield 36, 3) := by decide +kernel
theorem dX0_playEarliestOf_78 : decode cX0_playEarliestOf 78 = .ok (.aload_n 0, 1) := by decide +kernel
theorem dX0_playEarliestOf_79 : decode cX0_playEarliestOf 79 = .ok (.getfield 23, 3) := by decide +kernel
theorem dX0_playEarliestOf_82 : decode cX0_playEarliestOf 82 = .ok (.iload_n 1, 1) := by decide +kernel
theorem dX0_playEarliestOf_83 : decode cX0_playEarliestOf 83 = .ok (.iconst 1, 1) := by decide +kernel
theorem dX0_playEarliestOf_84 : decode cX0_playEarliestOf 84 = .ok (.invokevirtual 40, 3) := by decide +kernel
theorem dX0_playEarliestOf_87 : decode cX0_playEarliestOf 87 = .ok (.iconst 1, 1) := by decide +kernel
theorem dX0_playEarliestOf_88 : decode cX0_playEarliestOf 88 = .ok (.ireturn, 1) := by decide +kernel
set_option maxRecDepth 20000 in
theorem ggX0_aboutPerformer_X7_isPerformer : GoodIn wsX0_aboutPerformer wsX7_isPerformer := goodIn_r _ [6] (by decide +kernel) (by decide +kernel)
set_option maxRecDepth 20000 in
theorem gX0_aboutPerformer_X7_isPerformer_n54 : GoodIn wsX0_aboutPerformer (wsX7_isPerformer) := ggX0_aboutPerformer_X7_isPerformer
set_option maxRecDepth 20000 in
theorem ggX0_aboutPerformer_X0_owedBy : GoodIn wsX0_aboutPerformer wsX0_owedBy := goodIn_r _ [11, 12, 13, 14, 15, 16, 17, 18, 19, 20, 21, 22, 23, 24, 25, 26] (by decide +kernel) (by decide +kernel)
set_option maxRecDepth 20000 in
theorem gX0_aboutPerformer_X0_owedBy : GoodIn wsX0_aboutPerformer (wsV RX0 58 RX0 yX0_owedBy wsX0_owedBy) := goodIn_app (goodIn_of _ (by decide +kernel)) ggX0_aboutPerformer_X0_owedBy
set_option maxRecDepth 20000 in
theorem ggX0_aboutPerformer_X5_at : GoodIn wsX0_aboutPerformer wsX5_at := goodIn_r _ [18, 19, 26] (by decide +kernel) (by decide +kernel)
set_option maxRecDepth 20000 in
theorem gX0_aboutPerformer_X5_at : GoodIn wsX0_aboutPerformer (wsV RX0 47 RX5 yX5_at wsX5_at) := goodIn_app (goodIn_of _ (by decide +kernel)) ggX0_aboutPerformer_X5_at
theorem dX0_aboutPerformer_0 : decode cX0_aboutPerformer 0 = .ok (.iload_n 1, 1) := by decide +kernel
theorem dX0_aboutPerformer_1 : decode cX0_aboutPerformer 1 = .ok (.invokestatic 54, 3) := by decide +kernel
theorem dX0_aboutPerformer_4 : decode cX0_aboutPerformer 4 = .ok (.ifCond .ne 5, 3) := by decide +kernel
theorem dX0_aboutPerformer_7 : decode cX0_aboutPerformer 7 = .ok (.iconst (-1), 1) := by decide +kernel
theorem dX0_aboutPerformer_8 : decode cX0_aboutPerformer 8 = .ok (.ireturn, 1) := by decide +kernel
theorem dX0_aboutPerformer_9 : decode cX0_aboutPerformer 9 = .ok (.iload_n 2, 1) := by decide +kernel
theorem dX0_aboutPerformer_10 : decode cX0_aboutPerformer 10 = .ok (.tableswitch 63 0 3 #[30, 36, 45, 54], 30) := by decide +kernel
theorem dX0_aboutPerformer_40 : decode cX0_aboutPerformer 40 = .ok (.aload_n 0, 1) := by decide +kernel
theorem dX0_aboutPerformer_41 : decode cX0_aboutPerformer 41 = .ok (.iload_n 1, 1) := by decide +kernel
theorem dX0_aboutPerformer_42 : decode cX0_aboutPerformer 42 = .ok (.invokevirtual 58, 3) := by decide +kernel
theorem dX0_aboutPerformer_45 : decode cX0_aboutPerformer 45 = .ok (.ireturn, 1) := by decide +kernel
theorem dX0_aboutPerformer_46 : decode cX0_aboutPerformer 46 = .ok (.aload_n 0, 1) := by decide +kernel
theorem dX0_aboutPerformer_47 : decode cX0_aboutPerformer 47 = .ok (.getfield 23, 3) := by decide +kernel
theorem dX0_aboutPerformer_50 : decode cX0_aboutPerformer 50 = .ok (.iload_n 1, 1) := by decide +kernel
theorem dX0_aboutPerformer_51 : decode cX0_aboutPerformer 51 = .ok (.invokevirtual 47, 3) := by decide +kernel
theorem dX0_aboutPerformer_54 : decode cX0_aboutPerformer 54 = .ok (.ireturn, 1) := by decide +kernel
theorem dX0_aboutPerformer_55 : decode cX0_aboutPerformer 55 = .ok (.aload_n 0, 1) := by decide +kernel
theorem dX0_aboutPerformer_56 : decode cX0_aboutPerformer 56 = .ok (.getfield 26, 3) := by decide +kernel
theorem dX0_aboutPerformer_59 : decode cX0_aboutPerformer 59 = .ok (.iload_n 1, 1) := by decide +kernel
theorem dX0_aboutPerformer_60 : decode cX0_aboutPerformer 60 = .ok (.invokevirtual 47, 3) := by decide +kernel
theorem dX0_aboutPerformer_63 : decode cX0_aboutPerformer 63 = .ok (.ireturn, 1) := by decide +kernel
theorem dX0_aboutPerformer_64 : decode cX0_aboutPerformer 64 = .ok (.aload_n 0, 1) := by decide +kernel
theorem dX0_aboutPerformer_65 : decode cX0_aboutPerformer 65 = .ok (.getfield 29, 3) := by decide +kernel
theorem dX0_aboutPerformer_68 : decode cX0_aboutPerformer 68 = .ok (.iload_n 1, 1) := by decide +kernel
theorem dX0_aboutPerformer_69 : decode cX0_aboutPerformer 69 = .ok (.invokevirtual 47, 3) := by decide +kernel
theorem dX0_aboutPerformer_72 : decode cX0_aboutPerformer 72 = .ok (.ireturn, 1) := by decide +kernel
theorem dX0_aboutPerformer_73 : decode cX0_aboutPerformer 73 = .ok (.bipush (-2), 2) := by decide +kernel
theorem dX0_aboutPerformer_75 : decode cX0_aboutPerformer 75 = .ok (.ireturn, 1) := by decide +kernel
set_option maxRecDepth 20000 in
theorem ggX0_aboutOwed_X5_at : GoodIn wsX0_aboutOwed wsX5_at := goodIn_r _ [8, 9, 16] (by decide +kernel) (by decide +kernel)
set_option maxRecDepth 20000 in
theorem gX0_aboutOwed_X5_at : GoodIn wsX0_aboutOwed (wsV RX0 47 RX5 yX5_at wsX5_at) := goodIn_app (goodIn_of _ (by decide +kernel)) ggX0_aboutOwed_X5_at
theorem dX0_aboutOwed_0 : decode cX0_aboutOwed 0 = .ok (.iload_n 1, 1) := by decide +kernel
theorem dX0_aboutOwed_1 : decode cX0_aboutOwed 1 = .ok (.ifCond .lt 11, 3) := by decide +kernel
theorem dX0_aboutOwed_4 : decode cX0_aboutOwed 4 = .ok (.iload_n 1, 1) := by decide +kernel
theorem dX0_aboutOwed_5 : decode cX0_aboutOwed 5 = .ok (.aload_n 0, 1) := by decide +kernel
theorem dX0_aboutOwed_6 : decode cX0_aboutOwed 6 = .ok (.getfield 36, 3) := by decide +kernel
theorem dX0_aboutOwed_9 : decode cX0_aboutOwed 9 = .ok (.if_icmp .lt 5, 3) := by decide +kernel
theorem dX0_aboutOwed_12 : decode cX0_aboutOwed 12 = .ok (.iconst (-1), 1) := by decide +kernel
theorem dX0_aboutOwed_13 : decode cX0_aboutOwed 13 = .ok (.ireturn, 1) := by decide +kernel
theorem dX0_aboutOwed_14 : decode cX0_aboutOwed 14 = .ok (.iload_n 2, 1) := by decide +kernel
theorem dX0_aboutOwed_15 : decode cX0_aboutOwed 15 = .ok (.lookupswitch 45 #[(0, 25), (1, 34)], 25) := by decide +kernel
theorem dX0_aboutOwed_40 : decode cX0_aboutOwed 40 = .ok (.aload_n 0, 1) := by decide +kernel
theorem dX0_aboutOwed_41 : decode cX0_aboutOwed 41 = .ok (.getfield 14, 3) := by decide +kernel
theorem dX0_aboutOwed_44 : decode cX0_aboutOwed 44 = .ok (.iload_n 1, 1) := by decide +kernel
theorem dX0_aboutOwed_45 : decode cX0_aboutOwed 45 = .ok (.invokevirtual 47, 3) := by decide +kernel
theorem dX0_aboutOwed_48 : decode cX0_aboutOwed 48 = .ok (.ireturn, 1) := by decide +kernel
theorem dX0_aboutOwed_49 : decode cX0_aboutOwed 49 = .ok (.iload_n 3, 1) := by decide +kernel
theorem dX0_aboutOwed_50 : decode cX0_aboutOwed 50 = .ok (.aload_n 0, 1) := by decide +kernel
theorem dX0_aboutOwed_51 : decode cX0_aboutOwed 51 = .ok (.getfield 20, 3) := by decide +kernel
theorem dX0_aboutOwed_54 : decode cX0_aboutOwed 54 = .ok (.iload_n 1, 1) := by decide +kernel
theorem dX0_aboutOwed_55 : decode cX0_aboutOwed 55 = .ok (.invokevirtual 47, 3) := by decide +kernel
theorem dX0_aboutOwed_58 : decode cX0_aboutOwed 58 = .ok (.isub, 1) := by decide +kernel
theorem dX0_aboutOwed_59 : decode cX0_aboutOwed 59 = .ok (.ireturn, 1) := by decide +kernel
theorem dX0_aboutOwed_60 : decode cX0_aboutOwed 60 = .ok (.bipush (-2), 2) := by decide +kernel
theorem dX0_aboutOwed_62 : decode cX0_aboutOwed 62 = .ok (.ireturn, 1) := by decide +kernel
set_option maxRecDepth 20000 in
theorem ggX1_init_X2_init : GoodIn wsX1_init wsX2_init := goodIn_r _ [10, 11, 2, 3, 12, 13, 14, 15, 16, 17, 18, 19, 20, 21, 22, 23, 24, 25, 26, 27, 28, 29, 30, 31, 32, 33, 34, 35, 36, 37, 38, 39, 40, 41, 42, 43, 44, 45, 46, 47, 48, 49, 50, 51, 52, 53, 54, 55, 56, 57, 58, 59, 60, 61, 62, 63, 64, 65, 80, 69, 70, 71, 72, 73, 74, 75, 76, 77, 78, 79, 81, 82, 83, 84, 85, 86, 87, 88, 89, 90, 91, 92, 93, 94] (by decide +kernel) (by decide +kernel)
set_option maxRecDepth 20000 in
theorem gX1_init_X2_init : GoodIn wsX1_init (wsX2_init) := ggX1_init_X2_init
theorem dX1_init_0 : decode cX1_init 0 = .ok (.aload_n 0, 1) := by decide +kernel
theorem dX1_init_1 : decode cX1_init 1 = .ok (.invokespecial 3, 3) := by decide +kernel
theorem dX1_init_4 : decode cX1_init 4 = .ok (.aload_n 0, 1) := by decide +kernel
theorem dX1_init_5 : decode cX1_init 5 = .ok (.bipush 7, 2) := by decide +kernel
theorem dX1_init_7 : decode cX1_init 7 = .ok (.anewarray 11, 3) := by decide +kernel
theorem dX1_init_10 : decode cX1_init 10 = .ok (.putfield 13, 3) := by decide +kernel
theorem dX1_init_13 : decode cX1_init 13 = .ok (.iconst 0, 1) := by decide +kernel
theorem dX1_init_14 : decode cX1_init 14 = .ok (.istore_n 1, 1) := by decide +kernel
theorem dX1_init_15 : decode cX1_init 15 = .ok (.iload_n 1, 1) := by decide +kernel
theorem dX1_init_16 : decode cX1_init 16 = .ok (.aload_n 0, 1) := by decide +kernel
theorem dX1_init_17 : decode cX1_init 17 = .ok (.getfield 13, 3) := by decide +kernel
theorem dX1_init_20 : decode cX1_init 20 = .ok (.arraylength, 1) := by decide +kernel
theorem dX1_init_21 : decode cX1_init 21 = .ok (.if_icmp .ge 22, 3) := by decide +kernel
theorem dX1_init_24 : decode cX1_init 24 = .ok (.aload_n 0, 1) := by decide +kernel
theorem dX1_init_25 : decode cX1_init 25 = .ok (.getfield 13, 3) := by decide +kernel
theorem dX1_init_28 : decode cX1_init 28 = .ok (.iload_n 1, 1) := by decide +kernel
theorem dX1_init_29 : decode cX1_init 29 = .ok (.new 11, 3) := by decide +kernel
theorem dX1_init_32 : decode cX1_init 32 = .ok (.dup, 1) := by decide +kernel
theorem dX1_init_33 : decode cX1_init 33 = .ok (.invokespecial 17, 3) := by decide +kernel
theorem dX1_init_36 : decode cX1_init 36 = .ok (.aastore, 1) := by decide +kernel
theorem dX1_init_37 : decode cX1_init 37 = .ok (.iinc 1 1, 3) := by decide +kernel
theorem dX1_init_40 : decode cX1_init 40 = .ok (.goto (-25), 3) := by decide +kernel
theorem dX1_init_43 : decode cX1_init 43 = .ok (.return_, 1) := by decide +kernel
theorem dX1_kept_0 : decode cX1_kept 0 = .ok (.aload_n 0, 1) := by decide +kernel
theorem dX1_kept_1 : decode cX1_kept 1 = .ok (.getfield 18, 3) := by decide +kernel
theorem dX1_kept_4 : decode cX1_kept 4 = .ok (.ireturn, 1) := by decide +kernel
theorem dX1_stateAt_0 : decode cX1_stateAt 0 = .ok (.iload_n 1, 1) := by decide +kernel
theorem dX1_stateAt_1 : decode cX1_stateAt 1 = .ok (.ifCond .lt 21, 3) := by decide +kernel
theorem dX1_stateAt_4 : decode cX1_stateAt 4 = .ok (.iload_n 1, 1) := by decide +kernel
theorem dX1_stateAt_5 : decode cX1_stateAt 5 = .ok (.aload_n 0, 1) := by decide +kernel
theorem dX1_stateAt_6 : decode cX1_stateAt 6 = .ok (.getfield 13, 3) := by decide +kernel
theorem dX1_stateAt_9 : decode cX1_stateAt 9 = .ok (.arraylength, 1) := by decide +kernel
theorem dX1_stateAt_10 : decode cX1_stateAt 10 = .ok (.if_icmp .ge 12, 3) := by decide +kernel
theorem dX1_stateAt_13 : decode cX1_stateAt 13 = .ok (.aload_n 0, 1) := by decide +kernel
theorem dX1_stateAt_14 : decode cX1_stateAt 14 = .ok (.getfield 13, 3) := by decide +kernel
theorem dX1_stateAt_17 : decode cX1_stateAt 17 = .ok (.iload_n 1, 1) := by decide +kernel
theorem dX1_stateAt_18 : decode cX1_stateAt 18 = .ok (.aaload, 1) := by decide +kernel
theorem dX1_stateAt_19 : decode cX1_stateAt 19 = .ok (.goto 4, 3) := by decide +kernel
theorem dX1_stateAt_22 : decode cX1_stateAt 22 = .ok (.aconst_null, 1) := by decide +kernel
theorem dX1_stateAt_23 : decode cX1_stateAt 23 = .ok (.areturn, 1) := by decide +kernel
set_option maxRecDepth 20000 in
theorem ggX1_setAside_X1_stateAt : GoodIn wsX1_setAside wsX1_stateAt := goodIn_r _ [6, 7, 64, 65, 66] (by decide +kernel) (by decide +kernel)
set_option maxRecDepth 20000 in
theorem gX1_setAside_X1_stateAt : GoodIn wsX1_setAside (wsV RX1 25 RX1 yX1_stateAt wsX1_stateAt) := goodIn_app (goodIn_of _ (by decide +kernel)) ggX1_setAside_X1_stateAt
set_option maxRecDepth 20000 in
theorem ggX1_setAside_X2_copyFrom : GoodIn wsX1_setAside wsX2_copyFrom := goodIn_r _ [12, 13, 14, 15, 16, 17, 18, 19, 20, 21, 22, 23, 24, 25, 26, 27, 28, 29, 30, 31, 32, 33, 34, 35, 36, 37, 38, 39, 40, 41, 42, 43, 44, 45, 46, 47, 48, 49, 50, 51, 52, 53, 54, 55, 56, 57, 58, 59, 60, 61, 62, 63, 67, 68, 69, 70, 71, 72, 73, 74, 75, 76, 77, 78, 79, 80, 81, 82, 83, 84, 85, 86, 87, 88, 89, 90, 91, 92] (by decide +kernel) (by decide +kernel)
set_option maxRecDepth 20000 in
theorem gX1_setAside_X2_copyFrom : GoodIn wsX1_setAside (wsV RX1 29 RX2 yX2_copyFrom wsX2_copyFrom) := goodIn_app (goodIn_of _ (by decide +kernel)) ggX1_setAside_X2_copyFrom
theorem dX1_setAside_0 : decode cX1_setAside 0 = .ok (.aload_n 0, 1) := by decide +kernel
theorem dX1_setAside_1 : decode cX1_setAside 1 = .ok (.aload_n 0, 1) := by decide +kernel
theorem dX1_setAside_2 : decode cX1_setAside 2 = .ok (.getfield 22, 3) := by decide +kernel
theorem dX1_setAside_5 : decode cX1_setAside 5 = .ok (.invokevirtual 25, 3) := by decide +kernel
theorem dX1_setAside_8 : decode cX1_setAside 8 = .ok (.astore_n 2, 1) := by decide +kernel
theorem dX1_setAside_9 : decode cX1_setAside 9 = .ok (.aload_n 2, 1) := by decide +kernel
theorem dX1_setAside_10 : decode cX1_setAside 10 = .ok (.ifnull 8, 3) := by decide +kernel
theorem dX1_setAside_13 : decode cX1_setAside 13 = .ok (.aload_n 2, 1) := by decide +kernel
theorem dX1_setAside_14 : decode cX1_setAside 14 = .ok (.aload_n 1, 1) := by decide +kernel
theorem dX1_setAside_15 : decode cX1_setAside 15 = .ok (.invokevirtual 29, 3) := by decide +kernel
theorem dX1_setAside_18 : decode cX1_setAside 18 = .ok (.return_, 1) := by decide +kernel
theorem dX1_keepUnlessError_0 : decode cX1_keepUnlessError 0 = .ok (.iload_n 1, 1) := by decide +kernel
theorem dX1_keepUnlessError_1 : decode cX1_keepUnlessError 1 = .ok (.ifCond .lt 31, 3) := by decide +kernel
theorem dX1_keepUnlessError_4 : decode cX1_keepUnlessError 4 = .ok (.aload_n 0, 1) := by decide +kernel
theorem dX1_keepUnlessError_5 : decode cX1_keepUnlessError 5 = .ok (.aload_n 0, 1) := by decide +kernel
theorem dX1_keepUnlessError_6 : decode cX1_keepUnlessError 6 = .ok (.getfield 22, 3) := by decide +kernel
theorem dX1_keepUnlessError_9 : decode cX1_keepUnlessError 9 = .ok (.iconst 1, 1) := by decide +kernel
theorem dX1_keepUnlessError_10 : decode cX1_keepUnlessError 10 = .ok (.iadd, 1) := by decide +kernel
theorem dX1_keepUnlessError_11 : decode cX1_keepUnlessError 11 = .ok (.bipush 7, 2) := by decide +kernel
theorem dX1_keepUnlessError_13 : decode cX1_keepUnlessError 13 = .ok (.irem, 1) := by decide +kernel
theorem dX1_keepUnlessError_14 : decode cX1_keepUnlessError 14 = .ok (.putfield 22, 3) := by decide +kernel
theorem dX1_keepUnlessError_17 : decode cX1_keepUnlessError 17 = .ok (.aload_n 0, 1) := by decide +kernel
theorem dX1_keepUnlessError_18 : decode cX1_keepUnlessError 18 = .ok (.aload_n 0, 1) := by decide +kernel
theorem dX1_keepUnlessError_19 : decode cX1_keepUnlessError 19 = .ok (.getfield 18, 3) := by decide +kernel
theorem dX1_keepUnlessError_22 : decode cX1_keepUnlessError 22 = .ok (.iconst 1, 1) := by decide +kernel
theorem dX1_keepUnlessError_23 : decode cX1_keepUnlessError 23 = .ok (.iadd, 1) := by decide +kernel
theorem dX1_keepUnlessError_24 : decode cX1_keepUnlessError 24 = .ok (.bipush 6, 2) := by decide +kernel
theorem dX1_keepUnlessError_26 : decode cX1_keepUnlessError 26 = .ok (.invokestatic 33, 3) := by decide +kernel
theorem dX1_keepUnlessError_29 : decode cX1_keepUnlessError 29 = .ok (.putfield 18, 3) := by decide +kernel
theorem dX1_keepUnlessError_32 : decode cX1_keepUnlessError 32 = .ok (.iload_n 1, 1) := by decide +kernel
theorem dX1_keepUnlessError_33 : decode cX1_keepUnlessError 33 = .ok (.ireturn, 1) := by decide +kernel
set_option maxRecDepth 20000 in
theorem ggX1_takeBack_X1_stateAt : GoodIn wsX1_takeBack wsX1_stateAt := goodIn_r _ [7, 8, 65, 66, 67] (by decide +kernel) (by decide +kernel)
set_option maxRecDepth 20000 in
theorem gX1_takeBack_X1_stateAt : GoodIn wsX1_takeBack (wsV RX1 25 RX1 yX1_stateAt wsX1_stateAt) := goodIn_app (goodIn_of _ (by decide +kernel)) ggX1_takeBack_X1_stateAt
set_option maxRecDepth 20000 in
theorem ggX1_takeBack_X2_copyFrom : GoodIn wsX1_takeBack wsX2_copyFrom := goodIn_r _ [13, 14, 15, 16, 17, 18, 19, 20, 21, 22, 23, 24, 25, 26, 27, 28, 29, 30, 31, 32, 33, 34, 35, 36, 37, 38, 39, 40, 41, 42, 43, 44, 45, 46, 47, 48, 49, 50, 51, 52, 53, 54, 55, 56, 57, 58, 59, 60, 61, 62, 63, 64, 68, 69, 70, 71, 72, 73, 74, 75, 76, 77, 78, 79, 80, 81, 82, 83, 84, 85, 86, 87, 88, 89, 90, 91, 92, 93] (by decide +kernel) (by decide +kernel)
set_option maxRecDepth 20000 in
theorem gX1_takeBack_X2_copyFrom : GoodIn wsX1_takeBack (wsV RX1 29 RX2 yX2_copyFrom wsX2_copyFrom) := goodIn_app (goodIn_of _ (by decide +kernel)) ggX1_takeBack_X2_copyFrom
theorem dX1_takeBack_0 : decode cX1_takeBack 0 = .ok (.aload_n 0, 1) := by decide +kernel
theorem dX1_takeBack_1 : decode cX1_takeBack 1 = .ok (.getfield 22, 3) := by decide +kernel
theorem dX1_takeBack_4 : decode cX1_takeBack 4 = .ok (.bipush 7, 2) := by decide +kernel
theorem dX1_takeBack_6 : decode cX1_takeBack 6 = .ok (.iadd, 1) := by decide +kernel
theorem dX1_takeBack_7 : decode cX1_takeBack 7 = .ok (.iconst 1, 1) := by decide +kernel
theorem dX1_takeBack_8 : decode cX1_takeBack 8 = .ok (.isub, 1) := by decide +kernel
theorem dX1_takeBack_9 : decode cX1_takeBack 9 = .ok (.bipush 7, 2) := by decide +kernel
theorem dX1_takeBack_11 : decode cX1_takeBack 11 = .ok (.irem, 1) := by decide +kernel
theorem dX1_takeBack_12 : decode cX1_takeBack 12 = .ok (.istore_n 2, 1) := by decide +kernel
theorem dX1_takeBack_13 : decode cX1_takeBack 13 = .ok (.aload_n 0, 1) := by decide +kernel
theorem dX1_takeBack_14 : decode cX1_takeBack 14 = .ok (.iload_n 2, 1) := by decide +kernel
theorem dX1_takeBack_15 : decode cX1_takeBack 15 = .ok (.invokevirtual 25, 3) := by decide +kernel
theorem dX1_takeBack_18 : decode cX1_takeBack 18 = .ok (.astore_n 3, 1) := by decide +kernel
theorem dX1_takeBack_19 : decode cX1_takeBack 19 = .ok (.aload_n 0, 1) := by decide +kernel
theorem dX1_takeBack_20 : decode cX1_takeBack 20 = .ok (.getfield 18, 3) := by decide +kernel
theorem dX1_takeBack_23 : decode cX1_takeBack 23 = .ok (.ifCond .le 7, 3) := by decide +kernel
theorem dX1_takeBack_26 : decode cX1_takeBack 26 = .ok (.aload_n 3, 1) := by decide +kernel
theorem dX1_takeBack_27 : decode cX1_takeBack 27 = .ok (.ifnonnull 6, 3) := by decide +kernel
theorem dX1_takeBack_30 : decode cX1_takeBack 30 = .ok (.bipush (-5), 2) := by decide +kernel
theorem dX1_takeBack_32 : decode cX1_takeBack 32 = .ok (.ireturn, 1) := by decide +kernel
theorem dX1_takeBack_33 : decode cX1_takeBack 33 = .ok (.aload_n 1, 1) := by decide +kernel
theorem dX1_takeBack_34 : decode cX1_takeBack 34 = .ok (.aload_n 3, 1) := by decide +kernel
theorem dX1_takeBack_35 : decode cX1_takeBack 35 = .ok (.invokevirtual 29, 3) := by decide +kernel
theorem dX1_takeBack_38 : decode cX1_takeBack 38 = .ok (.aload_n 0, 1) := by decide +kernel
theorem dX1_takeBack_39 : decode cX1_takeBack 39 = .ok (.iload_n 2, 1) := by decide +kernel
theorem dX1_takeBack_40 : decode cX1_takeBack 40 = .ok (.putfield 22, 3) := by decide +kernel
theorem dX1_takeBack_43 : decode cX1_takeBack 43 = .ok (.aload_n 0, 1) := by decide +kernel
theorem dX1_takeBack_44 : decode cX1_takeBack 44 = .ok (.dup, 1) := by decide +kernel
theorem dX1_takeBack_45 : decode cX1_takeBack 45 = .ok (.getfield 18, 3) := by decide +kernel
theorem dX1_takeBack_48 : decode cX1_takeBack 48 = .ok (.iconst 1, 1) := by decide +kernel
theorem dX1_takeBack_49 : decode cX1_takeBack 49 = .ok (.isub, 1) := by decide +kernel
theorem dX1_takeBack_50 : decode cX1_takeBack 50 = .ok (.putfield 18, 3) := by decide +kernel
theorem dX1_takeBack_53 : decode cX1_takeBack 53 = .ok (.aload_n 0, 1) := by decide +kernel
theorem dX1_takeBack_54 : decode cX1_takeBack 54 = .ok (.getfield 18, 3) := by decide +kernel
theorem dX1_takeBack_57 : decode cX1_takeBack 57 = .ok (.ireturn, 1) := by decide +kernel
set_option maxRecDepth 20000 in
theorem ggX2_init_X5_init : GoodIn wsX2_init wsX5_init := goodIn_r _ [21, 22, 2, 3, 23, 24, 25, 26, 27, 28, 58] (by decide +kernel) (by decide +kernel)
set_option maxRecDepth 20000 in
theorem gX2_init_X5_init : GoodIn wsX2_init (wsX5_init) := ggX2_init_X5_init
set_option maxRecDepth 20000 in
theorem ggX2_init_X6_init : GoodIn wsX2_init wsX6_init := goodIn_r _ [31, 32, 2, 3, 33, 5, 6, 34, 35, 36, 37, 38, 39, 20, 21, 22, 23, 24, 25, 26, 27, 28, 40, 41, 42, 43, 58, 70, 71, 72, 73, 74, 75, 76, 77] (by decide +kernel) (by decide +kernel)
set_option maxRecDepth 20000 in
theorem gX2_init_X6_init : GoodIn wsX2_init (wsX6_init) := ggX2_init_X6_init
set_option maxRecDepth 20000 in
theorem ggX2_init_X0_init : GoodIn wsX2_init wsX0_init := goodIn_r _ [45, 46, 2, 3, 47, 5, 6, 48, 49, 50, 51, 52, 53, 20, 21, 22, 23, 24, 25, 26, 27, 28, 58, 78, 79, 80, 81, 82, 83] (by decide +kernel) (by decide +kernel)
set_option maxRecDepth 20000 in
theorem gX2_init_X0_init_n29 : GoodIn wsX2_init (wsX0_init) := ggX2_init_X0_init
set_option maxRecDepth 20000 in
theorem ggX2_init_X5_store : GoodIn wsX2_init wsX5_store := goodIn_r _ [57, 28, 58] (by decide +kernel) (by decide +kernel)
set_option maxRecDepth 20000 in
theorem gX2_init_X5_store : GoodIn wsX2_init (wsV RX2 48 RX5 yX5_store wsX5_store) := goodIn_app (goodIn_of _ (by decide +kernel)) ggX2_init_X5_store
theorem dX2_init_0 : decode cX2_init 0 = .ok (.aload_n 0, 1) := by decide +kernel
theorem dX2_init_1 : decode cX2_init 1 = .ok (.invokespecial 3, 3) := by decide +kernel
theorem dX2_init_4 : decode cX2_init 4 = .ok (.aload_n 0, 1) := by decide +kernel
theorem dX2_init_5 : decode cX2_init 5 = .ok (.new 9, 3) := by decide +kernel
theorem dX2_init_8 : decode cX2_init 8 = .ok (.dup, 1) := by decide +kernel
theorem dX2_init_9 : decode cX2_init 9 = .ok (.bipush 6, 2) := by decide +kernel
theorem dX2_init_11 : decode cX2_init 11 = .ok (.invokespecial 11, 3) := by decide +kernel
theorem dX2_init_14 : decode cX2_init 14 = .ok (.putfield 14, 3) := by decide +kernel
theorem dX2_init_17 : decode cX2_init 17 = .ok (.aload_n 0, 1) := by decide +kernel
theorem dX2_init_18 : decode cX2_init 18 = .ok (.new 20, 3) := by decide +kernel
theorem dX2_init_21 : decode cX2_init 21 = .ok (.dup, 1) := by decide +kernel
theorem dX2_init_22 : decode cX2_init 22 = .ok (.invokespecial 22, 3) := by decide +kernel
theorem dX2_init_25 : decode cX2_init 25 = .ok (.putfield 23, 3) := by decide +kernel
theorem dX2_init_28 : decode cX2_init 28 = .ok (.aload_n 0, 1) := by decide +kernel
theorem dX2_init_29 : decode cX2_init 29 = .ok (.new 27, 3) := by decide +kernel
theorem dX2_init_32 : decode cX2_init 32 = .ok (.dup, 1) := by decide +kernel
theorem dX2_init_33 : decode cX2_init 33 = .ok (.invokespecial 29, 3) := by decide +kernel
theorem dX2_init_36 : decode cX2_init 36 = .ok (.putfield 30, 3) := by decide +kernel
theorem dX2_init_39 : decode cX2_init 39 = .ok (.aload_n 0, 1) := by decide +kernel
theorem dX2_init_40 : decode cX2_init 40 = .ok (.new 9, 3) := by decide +kernel
theorem dX2_init_43 : decode cX2_init 43 = .ok (.dup, 1) := by decide +kernel
theorem dX2_init_44 : decode cX2_init 44 = .ok (.iconst 4, 1) := by decide +kernel
theorem dX2_init_45 : decode cX2_init 45 = .ok (.invokespecial 11, 3) := by decide +kernel
theorem dX2_init_48 : decode cX2_init 48 = .ok (.putfield 34, 3) := by decide +kernel
theorem dX2_init_51 : decode cX2_init 51 = .ok (.aload_n 0, 1) := by decide +kernel
theorem dX2_init_52 : decode cX2_init 52 = .ok (.new 9, 3) := by decide +kernel
theorem dX2_init_55 : decode cX2_init 55 = .ok (.dup, 1) := by decide +kernel
theorem dX2_init_56 : decode cX2_init 56 = .ok (.bipush 24, 2) := by decide +kernel
theorem dX2_init_58 : decode cX2_init 58 = .ok (.invokespecial 11, 3) := by decide +kernel
theorem dX2_init_61 : decode cX2_init 61 = .ok (.putfield 37, 3) := by decide +kernel
theorem dX2_init_64 : decode cX2_init 64 = .ok (.aload_n 0, 1) := by decide +kernel
theorem dX2_init_65 : decode cX2_init 65 = .ok (.bipush (-6), 2) := by decide +kernel
theorem dX2_init_67 : decode cX2_init 67 = .ok (.putfield 40, 3) := by decide +kernel
theorem dX2_init_70 : decode cX2_init 70 = .ok (.iconst 0, 1) := by decide +kernel
theorem dX2_init_71 : decode cX2_init 71 = .ok (.istore_n 1, 1) := by decide +kernel
theorem dX2_init_72 : decode cX2_init 72 = .ok (.iload_n 1, 1) := by decide +kernel
theorem dX2_init_73 : decode cX2_init 73 = .ok (.bipush 6, 2) := by decide +kernel
theorem dX2_init_75 : decode cX2_init 75 = .ok (.if_icmp .ge 30, 3) := by decide +kernel
theorem dX2_init_78 : decode cX2_init 78 = .ok (.iload_n 1, 1) := by decide +kernel
theorem dX2_init_79 : decode cX2_init 79 = .ok (.getstatic 44, 3) := by decide +kernel
theorem dX2_init_82 : decode cX2_init 82 = .ok (.arraylength, 1) := by decide +kernel
theorem dX2_init_83 : decode cX2_init 83 = .ok (.if_icmp .ge 22, 3) := by decide +kernel
theorem dX2_init_86 : decode cX2_init 86 = .ok (.aload_n 0, 1) := by decide +kernel
theorem dX2_init_87 : decode cX2_init 87 = .ok (.getfield 14, 3) := by decide +kernel
theorem dX2_init_90 : decode cX2_init 90 = .ok (.iload_n 1, 1) := by decide +kernel
theorem dX2_init_91 : decode cX2_init 91 = .ok (.getstatic 44, 3) := by decide +kernel
theorem dX2_init_94 : decode cX2_init 94 = .ok (.iload_n 1, 1) := by decide +kernel
theorem dX2_init_95 : decode cX2_init 95 = .ok (.iaload, 1) := by decide +kernel
theorem dX2_init_96 : decode cX2_init 96 = .ok (.invokevirtual 48, 3) := by decide +kernel
theorem dX2_init_99 : decode cX2_init 99 = .ok (.iinc 1 1, 3) := by decide +kernel
theorem dX2_init_102 : decode cX2_init 102 = .ok (.goto (-30), 3) := by decide +kernel
theorem dX2_init_105 : decode cX2_init 105 = .ok (.return_, 1) := by decide +kernel
set_option maxRecDepth 20000 in
theorem ggX2_copyFrom_X5_copyFrom : GoodIn wsX2_copyFrom wsX5_copyFrom := goodIn_r _ [16, 17, 18, 19, 20, 21, 22, 23, 24, 25, 63] (by decide +kernel) (by decide +kernel)
set_option maxRecDepth 20000 in
theorem gX2_copyFrom_X5_copyFrom : GoodIn wsX2_copyFrom (wsV RX2 52 RX5 yX5_copyFrom wsX5_copyFrom) := goodIn_app (goodIn_of _ (by decide +kernel)) ggX2_copyFrom_X5_copyFrom
set_option maxRecDepth 20000 in
theorem ggX2_copyFrom_X6_copyFrom : GoodIn wsX2_copyFrom wsX6_copyFrom := goodIn_r _ [30, 31, 32, 33, 34, 35, 36, 37, 38, 39, 13, 14, 15, 16, 17, 18, 19, 20, 21, 22, 23, 24, 25, 64, 65, 66, 67, 68, 69, 70, 71, 63] (by decide +kernel) (by decide +kernel)
set_option maxRecDepth 20000 in
theorem gX2_copyFrom_X6_copyFrom : GoodIn wsX2_copyFrom (wsV RX2 56 RX6 yX6_copyFrom wsX6_copyFrom) := goodIn_app (goodIn_of _ (by decide +kernel)) ggX2_copyFrom_X6_copyFrom
set_option maxRecDepth 20000 in
theorem ggX2_copyFrom_X0_copyFrom : GoodIn wsX2_copyFrom wsX0_copyFrom := goodIn_r _ [44, 45, 46, 47, 48, 49, 50, 51, 13, 14, 15, 16, 17, 18, 19, 20, 21, 22, 23, 24, 25, 72, 73, 74, 75, 76, 77, 63] (by decide +kernel) (by decide +kernel)
set_option maxRecDepth 20000 in
theorem gX2_copyFrom_X0_copyFrom : GoodIn wsX2_copyFrom (wsV RX2 59 RX0 yX0_copyFrom wsX0_copyFrom) := goodIn_app (goodIn_of _ (by decide +kernel)) ggX2_copyFrom_X0_copyFrom
theorem dX2_copyFrom_0 : decode cX2_copyFrom 0 = .ok (.aload_n 0, 1) := by decide +kernel
theorem dX2_copyFrom_1 : decode cX2_copyFrom 1 = .ok (.getfield 14, 3) := by decide +kernel
theorem dX2_copyFrom_4 : decode cX2_copyFrom 4 = .ok (.aload_n 1, 1) := by decide +kernel
theorem dX2_copyFrom_5 : decode cX2_copyFrom 5 = .ok (.getfield 14, 3) := by decide +kernel
theorem dX2_copyFrom_8 : decode cX2_copyFrom 8 = .ok (.invokevirtual 52, 3) := by decide +kernel
theorem dX2_copyFrom_11 : decode cX2_copyFrom 11 = .ok (.aload_n 0, 1) := by decide +kernel
theorem dX2_copyFrom_12 : decode cX2_copyFrom 12 = .ok (.getfield 23, 3) := by decide +kernel
theorem dX2_copyFrom_15 : decode cX2_copyFrom 15 = .ok (.aload_n 1, 1) := by decide +kernel
theorem dX2_copyFrom_16 : decode cX2_copyFrom 16 = .ok (.getfield 23, 3) := by decide +kernel
theorem dX2_copyFrom_19 : decode cX2_copyFrom 19 = .ok (.invokevirtual 56, 3) := by decide +kernel
theorem dX2_copyFrom_22 : decode cX2_copyFrom 22 = .ok (.aload_n 0, 1) := by decide +kernel
theorem dX2_copyFrom_23 : decode cX2_copyFrom 23 = .ok (.getfield 30, 3) := by decide +kernel
theorem dX2_copyFrom_26 : decode cX2_copyFrom 26 = .ok (.aload_n 1, 1) := by decide +kernel
theorem dX2_copyFrom_27 : decode cX2_copyFrom 27 = .ok (.getfield 30, 3) := by decide +kernel
theorem dX2_copyFrom_30 : decode cX2_copyFrom 30 = .ok (.invokevirtual 59, 3) := by decide +kernel
theorem dX2_copyFrom_33 : decode cX2_copyFrom 33 = .ok (.aload_n 0, 1) := by decide +kernel
theorem dX2_copyFrom_34 : decode cX2_copyFrom 34 = .ok (.getfield 34, 3) := by decide +kernel
theorem dX2_copyFrom_37 : decode cX2_copyFrom 37 = .ok (.aload_n 1, 1) := by decide +kernel
theorem dX2_copyFrom_38 : decode cX2_copyFrom 38 = .ok (.getfield 34, 3) := by decide +kernel
theorem dX2_copyFrom_41 : decode cX2_copyFrom 41 = .ok (.invokevirtual 52, 3) := by decide +kernel
theorem dX2_copyFrom_44 : decode cX2_copyFrom 44 = .ok (.aload_n 0, 1) := by decide +kernel
theorem dX2_copyFrom_45 : decode cX2_copyFrom 45 = .ok (.getfield 37, 3) := by decide +kernel
theorem dX2_copyFrom_48 : decode cX2_copyFrom 48 = .ok (.aload_n 1, 1) := by decide +kernel
theorem dX2_copyFrom_49 : decode cX2_copyFrom 49 = .ok (.getfield 37, 3) := by decide +kernel
theorem dX2_copyFrom_52 : decode cX2_copyFrom 52 = .ok (.invokevirtual 52, 3) := by decide +kernel
theorem dX2_copyFrom_55 : decode cX2_copyFrom 55 = .ok (.aload_n 0, 1) := by decide +kernel
theorem dX2_copyFrom_56 : decode cX2_copyFrom 56 = .ok (.aload_n 1, 1) := by decide +kernel
theorem dX2_copyFrom_57 : decode cX2_copyFrom 57 = .ok (.getfield 62, 3) := by decide +kernel
theorem dX2_copyFrom_60 : decode cX2_copyFrom 60 = .ok (.putfield 62, 3) := by decide +kernel
theorem dX2_copyFrom_63 : decode cX2_copyFrom 63 = .ok (.aload_n 0, 1) := by decide +kernel
theorem dX2_copyFrom_64 : decode cX2_copyFrom 64 = .ok (.aload_n 1, 1) := by decide +kernel
theorem dX2_copyFrom_65 : decode cX2_copyFrom 65 = .ok (.getfield 65, 3) := by decide +kernel
theorem dX2_copyFrom_68 : decode cX2_copyFrom 68 = .ok (.putfield 65, 3) := by decide +kernel
theorem dX2_copyFrom_71 : decode cX2_copyFrom 71 = .ok (.aload_n 0, 1) := by decide +kernel
theorem dX2_copyFrom_72 : decode cX2_copyFrom 72 = .ok (.aload_n 1, 1) := by decide +kernel
theorem dX2_copyFrom_73 : decode cX2_copyFrom 73 = .ok (.getfield 68, 3) := by decide +kernel
theorem dX2_copyFrom_76 : decode cX2_copyFrom 76 = .ok (.putfield 68, 3) := by decide +kernel
theorem dX2_copyFrom_79 : decode cX2_copyFrom 79 = .ok (.aload_n 0, 1) := by decide +kernel
theorem dX2_copyFrom_80 : decode cX2_copyFrom 80 = .ok (.aload_n 1, 1) := by decide +kernel
theorem dX2_copyFrom_81 : decode cX2_copyFrom 81 = .ok (.getfield 40, 3) := by decide +kernel
theorem dX2_copyFrom_84 : decode cX2_copyFrom 84 = .ok (.putfield 40, 3) := by decide +kernel
theorem dX2_copyFrom_87 : decode cX2_copyFrom 87 = .ok (.aload_n 0, 1) := by decide +kernel
theorem dX2_copyFrom_88 : decode cX2_copyFrom 88 = .ok (.aload_n 1, 1) := by decide +kernel
theorem dX2_copyFrom_89 : decode cX2_copyFrom 89 = .ok (.getfield 71, 3) := by decide +kernel
theorem dX2_copyFrom_92 : decode cX2_copyFrom 92 = .ok (.putfield 71, 3) := by decide +kernel
theorem dX2_copyFrom_95 : decode cX2_copyFrom 95 = .ok (.aload_n 0, 1) := by decide +kernel
theorem dX2_copyFrom_96 : decode cX2_copyFrom 96 = .ok (.aload_n 1, 1) := by decide +kernel
theorem dX2_copyFrom_97 : decode cX2_copyFrom 97 = .ok (.getfield 74, 3) := by decide +kernel
theorem dX2_copyFrom_100 : decode cX2_copyFrom 100 = .ok (.putfield 74, 3) := by decide +kernel
theorem dX2_copyFrom_103 : decode cX2_copyFrom 103 = .ok (.return_, 1) := by decide +kernel
set_option maxRecDepth 20000 in
theorem ggX2_changeSetting_X5_at : GoodIn wsX2_changeSetting wsX5_at := goodIn_r _ [6, 7, 23] (by decide +kernel) (by decide +kernel)
set_option maxRecDepth 20000 in
theorem gX2_changeSetting_X5_at : GoodIn wsX2_changeSetting (wsV RX2 84 RX5 yX5_at wsX5_at) := goodIn_app (goodIn_of _ (by decide +kernel)) ggX2_changeSetting_X5_at
set_option maxRecDepth 20000 in
theorem ggX2_changeSetting_X5_store : GoodIn wsX2_changeSetting wsX5_store := goodIn_r _ [11, 7, 23] (by decide +kernel) (by decide +kernel)
set_option maxRecDepth 20000 in
theorem gX2_changeSetting_X5_store : GoodIn wsX2_changeSetting (wsV RX2 48 RX5 yX5_store wsX5_store) := goodIn_app (goodIn_of _ (by decide +kernel)) ggX2_changeSetting_X5_store
theorem dX2_changeSetting_0 : decode cX2_changeSetting 0 = .ok (.iload_n 1, 1) := by decide +kernel
theorem dX2_changeSetting_1 : decode cX2_changeSetting 1 = .ok (.ifCond .lt 19, 3) := by decide +kernel
theorem dX2_changeSetting_4 : decode cX2_changeSetting 4 = .ok (.iload_n 1, 1) := by decide +kernel
theorem dX2_changeSetting_5 : decode cX2_changeSetting 5 = .ok (.getstatic 78, 3) := by decide +kernel
theorem dX2_changeSetting_8 : decode cX2_changeSetting 8 = .ok (.arraylength, 1) := by decide +kernel
theorem dX2_changeSetting_9 : decode cX2_changeSetting 9 = .ok (.if_icmp .ge 11, 3) := by decide +kernel
theorem dX2_changeSetting_12 : decode cX2_changeSetting 12 = .ok (.iload_n 1, 1) := by decide +kernel
theorem dX2_changeSetting_13 : decode cX2_changeSetting 13 = .ok (.getstatic 81, 3) := by decide +kernel
theorem dX2_changeSetting_16 : decode cX2_changeSetting 16 = .ok (.arraylength, 1) := by decide +kernel
theorem dX2_changeSetting_17 : decode cX2_changeSetting 17 = .ok (.if_icmp .lt 6, 3) := by decide +kernel
theorem dX2_changeSetting_20 : decode cX2_changeSetting 20 = .ok (.bipush (-2), 2) := by decide +kernel
theorem dX2_changeSetting_22 : decode cX2_changeSetting 22 = .ok (.ireturn, 1) := by decide +kernel
theorem dX2_changeSetting_23 : decode cX2_changeSetting 23 = .ok (.iload_n 2, 1) := by decide +kernel
theorem dX2_changeSetting_24 : decode cX2_changeSetting 24 = .ok (.getstatic 78, 3) := by decide +kernel
theorem dX2_changeSetting_27 : decode cX2_changeSetting 27 = .ok (.iload_n 1, 1) := by decide +kernel
theorem dX2_changeSetting_28 : decode cX2_changeSetting 28 = .ok (.iaload, 1) := by decide +kernel
theorem dX2_changeSetting_29 : decode cX2_changeSetting 29 = .ok (.if_icmp .lt 12, 3) := by decide +kernel
theorem dX2_changeSetting_32 : decode cX2_changeSetting 32 = .ok (.iload_n 2, 1) := by decide +kernel
theorem dX2_changeSetting_33 : decode cX2_changeSetting 33 = .ok (.getstatic 81, 3) := by decide +kernel
theorem dX2_changeSetting_36 : decode cX2_changeSetting 36 = .ok (.iload_n 1, 1) := by decide +kernel
theorem dX2_changeSetting_37 : decode cX2_changeSetting 37 = .ok (.iaload, 1) := by decide +kernel
theorem dX2_changeSetting_38 : decode cX2_changeSetting 38 = .ok (.if_icmp .le 6, 3) := by decide +kernel
theorem dX2_changeSetting_41 : decode cX2_changeSetting 41 = .ok (.bipush (-2), 2) := by decide +kernel
theorem dX2_changeSetting_43 : decode cX2_changeSetting 43 = .ok (.ireturn, 1) := by decide +kernel
theorem dX2_changeSetting_44 : decode cX2_changeSetting 44 = .ok (.aload_n 0, 1) := by decide +kernel
theorem dX2_changeSetting_45 : decode cX2_changeSetting 45 = .ok (.getfield 14, 3) := by decide +kernel
theorem dX2_changeSetting_48 : decode cX2_changeSetting 48 = .ok (.iload_n 1, 1) := by decide +kernel
theorem dX2_changeSetting_49 : decode cX2_changeSetting 49 = .ok (.invokevirtual 84, 3) := by decide +kernel
theorem dX2_changeSetting_52 : decode cX2_changeSetting 52 = .ok (.istore_n 3, 1) := by decide +kernel
theorem dX2_changeSetting_53 : decode cX2_changeSetting 53 = .ok (.aload_n 0, 1) := by decide +kernel
theorem dX2_changeSetting_54 : decode cX2_changeSetting 54 = .ok (.getfield 14, 3) := by decide +kernel
theorem dX2_changeSetting_57 : decode cX2_changeSetting 57 = .ok (.iload_n 1, 1) := by decide +kernel
theorem dX2_changeSetting_58 : decode cX2_changeSetting 58 = .ok (.iload_n 2, 1) := by decide +kernel
theorem dX2_changeSetting_59 : decode cX2_changeSetting 59 = .ok (.invokevirtual 48, 3) := by decide +kernel
theorem dX2_changeSetting_62 : decode cX2_changeSetting 62 = .ok (.iload_n 3, 1) := by decide +kernel
theorem dX2_changeSetting_63 : decode cX2_changeSetting 63 = .ok (.ireturn, 1) := by decide +kernel
set_option maxRecDepth 20000 in
theorem ggX2_changeLoudness_X7_isSeat : GoodIn wsX2_changeLoudness wsX7_isSeat := goodIn_r _ [4] (by decide +kernel) (by decide +kernel)
set_option maxRecDepth 20000 in
theorem gX2_changeLoudness_X7_isSeat_n88 : GoodIn wsX2_changeLoudness (wsX7_isSeat) := ggX2_changeLoudness_X7_isSeat
set_option maxRecDepth 20000 in
theorem ggX2_changeLoudness_X5_at : GoodIn wsX2_changeLoudness wsX5_at := goodIn_r _ [9, 10, 34] (by decide +kernel) (by decide +kernel)
set_option maxRecDepth 20000 in
theorem gX2_changeLoudness_X5_at : GoodIn wsX2_changeLoudness (wsV RX2 84 RX5 yX5_at wsX5_at) := goodIn_app (goodIn_of _ (by decide +kernel)) ggX2_changeLoudness_X5_at
set_option maxRecDepth 20000 in
theorem ggX2_changeLoudness_X5_store : GoodIn wsX2_changeLoudness wsX5_store := goodIn_r _ [14, 10, 34] (by decide +kernel) (by decide +kernel)
set_option maxRecDepth 20000 in
theorem gX2_changeLoudness_X5_store : GoodIn wsX2_changeLoudness (wsV RX2 48 RX5 yX5_store wsX5_store) := goodIn_app (goodIn_of _ (by decide +kernel)) ggX2_changeLoudness_X5_store
theorem dX2_changeLoudness_0 : decode cX2_changeLoudness 0 = .ok (.iload_n 1, 1) := by decide +kernel
theorem dX2_changeLoudness_1 : decode cX2_changeLoudness 1 = .ok (.invokestatic 88, 3) := by decide +kernel
theorem dX2_changeLoudness_4 : decode cX2_changeLoudness 4 = .ok (.ifCond .ne 5, 3) := by decide +kernel
theorem dX2_changeLoudness_7 : decode cX2_changeLoudness 7 = .ok (.iconst (-1), 1) := by decide +kernel
theorem dX2_changeLoudness_8 : decode cX2_changeLoudness 8 = .ok (.ireturn, 1) := by decide +kernel
theorem dX2_changeLoudness_9 : decode cX2_changeLoudness 9 = .ok (.iload_n 2, 1) := by decide +kernel
theorem dX2_changeLoudness_10 : decode cX2_changeLoudness 10 = .ok (.iconst 1, 1) := by decide +kernel
theorem dX2_changeLoudness_11 : decode cX2_changeLoudness 11 = .ok (.if_icmp .lt 9, 3) := by decide +kernel
theorem dX2_changeLoudness_14 : decode cX2_changeLoudness 14 = .ok (.iload_n 2, 1) := by decide +kernel
theorem dX2_changeLoudness_15 : decode cX2_changeLoudness 15 = .ok (.bipush 9, 2) := by decide +kernel
theorem dX2_changeLoudness_17 : decode cX2_changeLoudness 17 = .ok (.if_icmp .le 6, 3) := by decide +kernel
theorem dX2_changeLoudness_20 : decode cX2_changeLoudness 20 = .ok (.bipush (-2), 2) := by decide +kernel
theorem dX2_changeLoudness_22 : decode cX2_changeLoudness 22 = .ok (.ireturn, 1) := by decide +kernel
theorem dX2_changeLoudness_23 : decode cX2_changeLoudness 23 = .ok (.aload_n 0, 1) := by decide +kernel
theorem dX2_changeLoudness_24 : decode cX2_changeLoudness 24 = .ok (.getfield 23, 3) := by decide +kernel
theorem dX2_changeLoudness_27 : decode cX2_changeLoudness 27 = .ok (.getfield 92, 3) := by decide +kernel
theorem dX2_changeLoudness_30 : decode cX2_changeLoudness 30 = .ok (.iload_n 1, 1) := by decide +kernel
theorem dX2_changeLoudness_31 : decode cX2_changeLoudness 31 = .ok (.invokevirtual 84, 3) := by decide +kernel
theorem dX2_changeLoudness_34 : decode cX2_changeLoudness 34 = .ok (.istore_n 3, 1) := by decide +kernel
theorem dX2_changeLoudness_35 : decode cX2_changeLoudness 35 = .ok (.aload_n 0, 1) := by decide +kernel
theorem dX2_changeLoudness_36 : decode cX2_changeLoudness 36 = .ok (.getfield 23, 3) := by decide +kernel
theorem dX2_changeLoudness_39 : decode cX2_changeLoudness 39 = .ok (.getfield 92, 3) := by decide +kernel
theorem dX2_changeLoudness_42 : decode cX2_changeLoudness 42 = .ok (.iload_n 1, 1) := by decide +kernel
theorem dX2_changeLoudness_43 : decode cX2_changeLoudness 43 = .ok (.iload_n 2, 1) := by decide +kernel
theorem dX2_changeLoudness_44 : decode cX2_changeLoudness 44 = .ok (.invokevirtual 48, 3) := by decide +kernel
theorem dX2_changeLoudness_47 : decode cX2_changeLoudness 47 = .ok (.iload_n 3, 1) := by decide +kernel
theorem dX2_changeLoudness_48 : decode cX2_changeLoudness 48 = .ok (.ireturn, 1) := by decide +kernel
set_option maxRecDepth 20000 in
theorem ggX2_switchPay_X7_isSeat : GoodIn wsX2_switchPay wsX7_isSeat := goodIn_r _ [4] (by decide +kernel) (by decide +kernel)
set_option maxRecDepth 20000 in
theorem gX2_switchPay_X7_isSeat_n88 : GoodIn wsX2_switchPay (wsX7_isSeat) := ggX2_switchPay_X7_isSeat
theorem dX2_switchPay_0 : decode cX2_switchPay 0 = .ok (.iload_n 1, 1) := by decide +kernel
theorem dX2_switchPay_1 : decode cX2_switchPay 1 = .ok (.invokestatic 88, 3) := by decide +kernel
theorem dX2_switchPay_4 : decode cX2_switchPay 4 = .ok (.ifCond .ne 5, 3) := by decide +kernel
theorem dX2_switchPay_7 : decode cX2_switchPay 7 = .ok (.iconst (-1), 1) := by decide +kernel
theorem dX2_switchPay_8 : decode cX2_switchPay 8 = .ok (.ireturn, 1) := by decide +kernel
theorem dX2_switchPay_9 : decode cX2_switchPay 9 = .ok (.aload_n 0, 1) := by decide +kernel
theorem dX2_switchPay_10 : decode cX2_switchPay 10 = .ok (.getfield 23, 3) := by decide +kernel
theorem dX2_switchPay_13 : decode cX2_switchPay 13 = .ok (.dup, 1) := by decide +kernel
theorem dX2_switchPay_14 : decode cX2_switchPay 14 = .ok (.getfield 95, 3) := by decide +kernel
theorem dX2_switchPay_17 : decode cX2_switchPay 17 = .ok (.iconst 1, 1) := by decide +kernel
theorem dX2_switchPay_18 : decode cX2_switchPay 18 = .ok (.iload_n 1, 1) := by decide +kernel
theorem dX2_switchPay_19 : decode cX2_switchPay 19 = .ok (.ishl, 1) := by decide +kernel
theorem dX2_switchPay_20 : decode cX2_switchPay 20 = .ok (.ixor, 1) := by decide +kernel
theorem dX2_switchPay_21 : decode cX2_switchPay 21 = .ok (.putfield 95, 3) := by decide +kernel
theorem dX2_switchPay_24 : decode cX2_switchPay 24 = .ok (.aload_n 0, 1) := by decide +kernel
theorem dX2_switchPay_25 : decode cX2_switchPay 25 = .ok (.getfield 23, 3) := by decide +kernel
theorem dX2_switchPay_28 : decode cX2_switchPay 28 = .ok (.getfield 95, 3) := by decide +kernel
theorem dX2_switchPay_31 : decode cX2_switchPay 31 = .ok (.ireturn, 1) := by decide +kernel
set_option maxRecDepth 20000 in
theorem ggX2_endPiece_X7_isPerformer : GoodIn wsX2_endPiece wsX7_isPerformer := goodIn_r _ [4] (by decide +kernel) (by decide +kernel)
set_option maxRecDepth 20000 in
theorem gX2_endPiece_X7_isPerformer_n98 : GoodIn wsX2_endPiece (wsX7_isPerformer) := ggX2_endPiece_X7_isPerformer
set_option maxRecDepth 20000 in
theorem ggX2_endPiece_X2_beginApplause : GoodIn wsX2_endPiece wsX2_beginApplause := goodIn_r _ [9, 10, 11, 1, 12, 13, 14, 15, 16, 17, 18, 19, 20, 21, 22, 23, 24, 25, 26, 27, 28, 29, 30, 31, 32, 33, 34, 35, 36, 37, 38, 39, 40, 41, 42, 43, 44, 45, 46, 47, 48, 49, 50, 51, 52, 53] (by decide +kernel) (by decide +kernel)
set_option maxRecDepth 20000 in
theorem gX2_endPiece_X2_beginApplause : GoodIn wsX2_endPiece (wsV RX2 101 RX2 yX2_beginApplause wsX2_beginApplause) := goodIn_app (goodIn_of _ (by decide +kernel)) ggX2_endPiece_X2_beginApplause
theorem dX2_endPiece_0 : decode cX2_endPiece 0 = .ok (.iload_n 1, 1) := by decide +kernel
theorem dX2_endPiece_1 : decode cX2_endPiece 1 = .ok (.invokestatic 98, 3) := by decide +kernel
theorem dX2_endPiece_4 : decode cX2_endPiece 4 = .ok (.ifCond .ne 5, 3) := by decide +kernel
theorem dX2_endPiece_7 : decode cX2_endPiece 7 = .ok (.iconst (-1), 1) := by decide +kernel
theorem dX2_endPiece_8 : decode cX2_endPiece 8 = .ok (.ireturn, 1) := by decide +kernel
theorem dX2_endPiece_9 : decode cX2_endPiece 9 = .ok (.aload_n 0, 1) := by decide +kernel
theorem dX2_endPiece_10 : decode cX2_endPiece 10 = .ok (.getfield 62, 3) := by decide +kernel
theorem dX2_endPiece_13 : decode cX2_endPiece 13 = .ok (.istore_n 2, 1) := by decide +kernel
theorem dX2_endPiece_14 : decode cX2_endPiece 14 = .ok (.aload_n 0, 1) := by decide +kernel
theorem dX2_endPiece_15 : decode cX2_endPiece 15 = .ok (.iload_n 1, 1) := by decide +kernel
theorem dX2_endPiece_16 : decode cX2_endPiece 16 = .ok (.invokevirtual 101, 3) := by decide +kernel
theorem dX2_endPiece_19 : decode cX2_endPiece 19 = .ok (.iload_n 2, 1) := by decide +kernel
theorem dX2_endPiece_20 : decode cX2_endPiece 20 = .ok (.ireturn, 1) := by decide +kernel
set_option maxRecDepth 20000 in
theorem ggX2_beginApplause_X5_add : GoodIn wsX2_beginApplause wsX5_add := goodIn_r _ [12, 13, 37] (by decide +kernel) (by decide +kernel)
set_option maxRecDepth 20000 in
theorem gX2_beginApplause_X5_add : GoodIn wsX2_beginApplause (wsV RX2 107 RX5 yX5_add wsX5_add) := goodIn_app (goodIn_of _ (by decide +kernel)) ggX2_beginApplause_X5_add
set_option maxRecDepth 20000 in
theorem ggX2_beginApplause_X6_beginPiece : GoodIn wsX2_beginApplause wsX6_beginPiece := goodIn_r _ [18, 19, 38, 39, 40, 41, 42, 43, 44, 45] (by decide +kernel) (by decide +kernel)
set_option maxRecDepth 20000 in
theorem gX2_beginApplause_X6_beginPiece : GoodIn wsX2_beginApplause (wsV RX2 110 RX6 yX6_beginPiece wsX6_beginPiece) := goodIn_app (goodIn_of _ (by decide +kernel)) ggX2_beginApplause_X6_beginPiece
theorem dX2_beginApplause_0 : decode cX2_beginApplause 0 = .ok (.aload_n 0, 1) := by decide +kernel
theorem dX2_beginApplause_1 : decode cX2_beginApplause 1 = .ok (.getfield 30, 3) := by decide +kernel
theorem dX2_beginApplause_4 : decode cX2_beginApplause 4 = .ok (.getfield 104, 3) := by decide +kernel
theorem dX2_beginApplause_7 : decode cX2_beginApplause 7 = .ok (.iload_n 1, 1) := by decide +kernel
theorem dX2_beginApplause_8 : decode cX2_beginApplause 8 = .ok (.iconst 1, 1) := by decide +kernel
theorem dX2_beginApplause_9 : decode cX2_beginApplause 9 = .ok (.invokevirtual 107, 3) := by decide +kernel
theorem dX2_beginApplause_12 : decode cX2_beginApplause 12 = .ok (.aload_n 0, 1) := by decide +kernel
theorem dX2_beginApplause_13 : decode cX2_beginApplause 13 = .ok (.getfield 23, 3) := by decide +kernel
theorem dX2_beginApplause_16 : decode cX2_beginApplause 16 = .ok (.invokevirtual 110, 3) := by decide +kernel
theorem dX2_beginApplause_19 : decode cX2_beginApplause 19 = .ok (.aload_n 0, 1) := by decide +kernel
theorem dX2_beginApplause_20 : decode cX2_beginApplause 20 = .ok (.iconst 0, 1) := by decide +kernel
theorem dX2_beginApplause_21 : decode cX2_beginApplause 21 = .ok (.putfield 62, 3) := by decide +kernel
theorem dX2_beginApplause_24 : decode cX2_beginApplause 24 = .ok (.aload_n 0, 1) := by decide +kernel
theorem dX2_beginApplause_25 : decode cX2_beginApplause 25 = .ok (.iload_n 1, 1) := by decide +kernel
theorem dX2_beginApplause_26 : decode cX2_beginApplause 26 = .ok (.putfield 40, 3) := by decide +kernel
theorem dX2_beginApplause_29 : decode cX2_beginApplause 29 = .ok (.aload_n 0, 1) := by decide +kernel
theorem dX2_beginApplause_30 : decode cX2_beginApplause 30 = .ok (.aload_n 0, 1) := by decide +kernel
theorem dX2_beginApplause_31 : decode cX2_beginApplause 31 = .ok (.getfield 65, 3) := by decide +kernel
theorem dX2_beginApplause_34 : decode cX2_beginApplause 34 = .ok (.putfield 71, 3) := by decide +kernel
theorem dX2_beginApplause_37 : decode cX2_beginApplause 37 = .ok (.aload_n 0, 1) := by decide +kernel
theorem dX2_beginApplause_38 : decode cX2_beginApplause 38 = .ok (.iconst 0, 1) := by decide +kernel
theorem dX2_beginApplause_39 : decode cX2_beginApplause 39 = .ok (.putfield 74, 3) := by decide +kernel
theorem dX2_beginApplause_42 : decode cX2_beginApplause 42 = .ok (.return_, 1) := by decide +kernel
set_option maxRecDepth 20000 in
theorem ggX2_takeClap_X7_isSeat : GoodIn wsX2_takeClap wsX7_isSeat := goodIn_r _ [15] (by decide +kernel) (by decide +kernel)
set_option maxRecDepth 20000 in
theorem gX2_takeClap_X7_isSeat_n88 : GoodIn wsX2_takeClap (wsX7_isSeat) := ggX2_takeClap_X7_isSeat
set_option maxRecDepth 20000 in
theorem ggX2_takeClap_X5_at : GoodIn wsX2_takeClap wsX5_at := goodIn_r _ [20, 21, 83] (by decide +kernel) (by decide +kernel)
set_option maxRecDepth 20000 in
theorem gX2_takeClap_X5_at : GoodIn wsX2_takeClap (wsV RX2 84 RX5 yX5_at wsX5_at) := goodIn_app (goodIn_of _ (by decide +kernel)) ggX2_takeClap_X5_at
set_option maxRecDepth 20000 in
theorem ggX2_takeClap_X6_addClap : GoodIn wsX2_takeClap wsX6_addClap := goodIn_r _ [26, 27, 28, 29, 30, 31, 32, 33, 34, 35, 25, 36, 37, 38, 39, 19, 40, 21, 41, 17, 18, 20, 42, 43, 44, 45, 75, 76, 77, 78, 79, 80, 81, 82, 83] (by decide +kernel) (by decide +kernel)
set_option maxRecDepth 20000 in
theorem gX2_takeClap_X6_addClap : GoodIn wsX2_takeClap (wsV RX2 113 RX6 yX6_addClap wsX6_addClap) := goodIn_app (goodIn_of _ (by decide +kernel)) ggX2_takeClap_X6_addClap
set_option maxRecDepth 20000 in
theorem ggX2_takeClap_X5_add : GoodIn wsX2_takeClap wsX5_add := goodIn_r _ [40, 21, 83] (by decide +kernel) (by decide +kernel)
set_option maxRecDepth 20000 in
theorem gX2_takeClap_X5_add : GoodIn wsX2_takeClap (wsV RX2 107 RX5 yX5_add wsX5_add) := goodIn_app (goodIn_of _ (by decide +kernel)) ggX2_takeClap_X5_add
set_option maxRecDepth 20000 in
theorem ggX2_takeClap_X2_bringEncore : GoodIn wsX2_takeClap wsX2_bringEncore := goodIn_r _ [51, 12, 52, 1, 3, 6, 53, 54, 55, 56, 57, 58, 59, 60, 61, 62, 38, 39, 19, 40, 21, 63, 43, 44, 45, 46, 64, 65, 66, 67, 68, 69, 70, 71, 72, 73, 74, 84, 85, 86, 87, 88, 89, 83] (by decide +kernel) (by decide +kernel)
set_option maxRecDepth 20000 in
theorem gX2_takeClap_X2_bringEncore : GoodIn wsX2_takeClap (wsV RX2 123 RX2 yX2_bringEncore wsX2_bringEncore) := goodIn_app (goodIn_of _ (by decide +kernel)) ggX2_takeClap_X2_bringEncore
theorem dX2_takeClap_0 : decode cX2_takeClap 0 = .ok (.iload_n 1, 1) := by decide +kernel
theorem dX2_takeClap_1 : decode cX2_takeClap 1 = .ok (.invokestatic 88, 3) := by decide +kernel
theorem dX2_takeClap_4 : decode cX2_takeClap 4 = .ok (.ifCond .ne 5, 3) := by decide +kernel
theorem dX2_takeClap_7 : decode cX2_takeClap 7 = .ok (.iconst (-1), 1) := by decide +kernel
theorem dX2_takeClap_8 : decode cX2_takeClap 8 = .ok (.ireturn, 1) := by decide +kernel
theorem dX2_takeClap_9 : decode cX2_takeClap 9 = .ok (.aload_n 0, 1) := by decide +kernel
theorem dX2_takeClap_10 : decode cX2_takeClap 10 = .ok (.getfield 40, 3) := by decide +kernel
theorem dX2_takeClap_13 : decode cX2_takeClap 13 = .ok (.bipush (-6), 2) := by decide +kernel
theorem dX2_takeClap_15 : decode cX2_takeClap 15 = .ok (.if_icmp .ne 6, 3) := by decide +kernel
theorem dX2_takeClap_18 : decode cX2_takeClap 18 = .ok (.bipush (-5), 2) := by decide +kernel
theorem dX2_takeClap_20 : decode cX2_takeClap 20 = .ok (.ireturn, 1) := by decide +kernel
theorem dX2_takeClap_21 : decode cX2_takeClap 21 = .ok (.aload_n 0, 1) := by decide +kernel
theorem dX2_takeClap_22 : decode cX2_takeClap 22 = .ok (.getfield 23, 3) := by decide +kernel
theorem dX2_takeClap_25 : decode cX2_takeClap 25 = .ok (.iload_n 1, 1) := by decide +kernel
theorem dX2_takeClap_26 : decode cX2_takeClap 26 = .ok (.aload_n 0, 1) := by decide +kernel
theorem dX2_takeClap_27 : decode cX2_takeClap 27 = .ok (.getfield 65, 3) := by decide +kernel
theorem dX2_takeClap_30 : decode cX2_takeClap 30 = .ok (.aload_n 0, 1) := by decide +kernel
theorem dX2_takeClap_31 : decode cX2_takeClap 31 = .ok (.getfield 71, 3) := by decide +kernel
theorem dX2_takeClap_34 : decode cX2_takeClap 34 = .ok (.isub, 1) := by decide +kernel
theorem dX2_takeClap_35 : decode cX2_takeClap 35 = .ok (.aload_n 0, 1) := by decide +kernel
theorem dX2_takeClap_36 : decode cX2_takeClap 36 = .ok (.getfield 14, 3) := by decide +kernel
theorem dX2_takeClap_39 : decode cX2_takeClap 39 = .ok (.iconst 3, 1) := by decide +kernel
theorem dX2_takeClap_40 : decode cX2_takeClap 40 = .ok (.invokevirtual 84, 3) := by decide +kernel
theorem dX2_takeClap_43 : decode cX2_takeClap 43 = .ok (.if_icmp .gt 7, 3) := by decide +kernel
theorem dX2_takeClap_46 : decode cX2_takeClap 46 = .ok (.iconst 1, 1) := by decide +kernel
theorem dX2_takeClap_47 : decode cX2_takeClap 47 = .ok (.goto 4, 3) := by decide +kernel
theorem dX2_takeClap_50 : decode cX2_takeClap 50 = .ok (.iconst 0, 1) := by decide +kernel
theorem dX2_takeClap_51 : decode cX2_takeClap 51 = .ok (.invokevirtual 113, 3) := by decide +kernel
theorem dX2_takeClap_54 : decode cX2_takeClap 54 = .ok (.aload_n 0, 1) := by decide +kernel
theorem dX2_takeClap_55 : decode cX2_takeClap 55 = .ok (.getfield 34, 3) := by decide +kernel
theorem dX2_takeClap_58 : decode cX2_takeClap 58 = .ok (.iconst 0, 1) := by decide +kernel
theorem dX2_takeClap_59 : decode cX2_takeClap 59 = .ok (.iconst 1, 1) := by decide +kernel
theorem dX2_takeClap_60 : decode cX2_takeClap 60 = .ok (.invokevirtual 107, 3) := by decide +kernel
theorem dX2_takeClap_63 : decode cX2_takeClap 63 = .ok (.aload_n 0, 1) := by decide +kernel
theorem dX2_takeClap_64 : decode cX2_takeClap 64 = .ok (.aload_n 0, 1) := by decide +kernel
theorem dX2_takeClap_65 : decode cX2_takeClap 65 = .ok (.getfield 62, 3) := by decide +kernel
theorem dX2_takeClap_68 : decode cX2_takeClap 68 = .ok (.bipush 10, 2) := by decide +kernel
theorem dX2_takeClap_70 : decode cX2_takeClap 70 = .ok (.aload_n 0, 1) := by decide +kernel
theorem dX2_takeClap_71 : decode cX2_takeClap 71 = .ok (.getfield 23, 3) := by decide +kernel
theorem dX2_takeClap_74 : decode cX2_takeClap 74 = .ok (.getfield 92, 3) := by decide +kernel
theorem dX2_takeClap_77 : decode cX2_takeClap 77 = .ok (.iload_n 1, 1) := by decide +kernel
theorem dX2_takeClap_78 : decode cX2_takeClap 78 = .ok (.invokevirtual 84, 3) := by decide +kernel
theorem dX2_takeClap_81 : decode cX2_takeClap 81 = .ok (.imul, 1) := by decide +kernel
theorem dX2_takeClap_82 : decode cX2_takeClap 82 = .ok (.iadd, 1) := by decide +kernel
theorem dX2_takeClap_83 : decode cX2_takeClap 83 = .ok (.sipush 9999, 3) := by decide +kernel
theorem dX2_takeClap_86 : decode cX2_takeClap 86 = .ok (.invokestatic 117, 3) := by decide +kernel
theorem dX2_takeClap_89 : decode cX2_takeClap 89 = .ok (.putfield 62, 3) := by decide +kernel
theorem dX2_takeClap_92 : decode cX2_takeClap 92 = .ok (.aload_n 0, 1) := by decide +kernel
theorem dX2_takeClap_93 : decode cX2_takeClap 93 = .ok (.getfield 62, 3) := by decide +kernel
theorem dX2_takeClap_96 : decode cX2_takeClap 96 = .ok (.aload_n 0, 1) := by decide +kernel
theorem dX2_takeClap_97 : decode cX2_takeClap 97 = .ok (.getfield 14, 3) := by decide +kernel
theorem dX2_takeClap_100 : decode cX2_takeClap 100 = .ok (.iconst 1, 1) := by decide +kernel
theorem dX2_takeClap_101 : decode cX2_takeClap 101 = .ok (.invokevirtual 84, 3) := by decide +kernel
theorem dX2_takeClap_104 : decode cX2_takeClap 104 = .ok (.if_icmp .lt 14, 3) := by decide +kernel
theorem dX2_takeClap_107 : decode cX2_takeClap 107 = .ok (.aload_n 0, 1) := by decide +kernel
theorem dX2_takeClap_108 : decode cX2_takeClap 108 = .ok (.getfield 74, 3) := by decide +kernel
theorem dX2_takeClap_111 : decode cX2_takeClap 111 = .ok (.ifCond .ne 7, 3) := by decide +kernel
theorem dX2_takeClap_114 : decode cX2_takeClap 114 = .ok (.aload_n 0, 1) := by decide +kernel
theorem dX2_takeClap_115 : decode cX2_takeClap 115 = .ok (.invokevirtual 123, 3) := by decide +kernel
theorem dX2_takeClap_118 : decode cX2_takeClap 118 = .ok (.aload_n 0, 1) := by decide +kernel
theorem dX2_takeClap_119 : decode cX2_takeClap 119 = .ok (.getfield 62, 3) := by decide +kernel
theorem dX2_takeClap_122 : decode cX2_takeClap 122 = .ok (.ireturn, 1) := by decide +kernel
set_option maxRecDepth 20000 in
theorem ggX2_bringEncore_X0_owe : GoodIn wsX2_bringEncore wsX0_owe := goodIn_r _ [10, 11, 12, 13, 14, 15, 16, 17, 18, 19, 20, 21, 22, 23, 24, 37, 38, 39, 40, 41, 42, 43] (by decide +kernel) (by decide +kernel)
set_option maxRecDepth 20000 in
theorem gX2_bringEncore_X0_owe : GoodIn wsX2_bringEncore (wsV RX2 126 RX0 yX0_owe wsX0_owe) := goodIn_app (goodIn_of _ (by decide +kernel)) ggX2_bringEncore_X0_owe
set_option maxRecDepth 20000 in
theorem ggX2_bringEncore_X5_add : GoodIn wsX2_bringEncore wsX5_add := goodIn_r _ [19, 20, 43] (by decide +kernel) (by decide +kernel)
set_option maxRecDepth 20000 in
theorem gX2_bringEncore_X5_add : GoodIn wsX2_bringEncore (wsV RX2 107 RX5 yX5_add wsX5_add) := goodIn_app (goodIn_of _ (by decide +kernel)) ggX2_bringEncore_X5_add
theorem dX2_bringEncore_0 : decode cX2_bringEncore 0 = .ok (.aload_n 0, 1) := by decide +kernel
theorem dX2_bringEncore_1 : decode cX2_bringEncore 1 = .ok (.iconst 1, 1) := by decide +kernel
theorem dX2_bringEncore_2 : decode cX2_bringEncore 2 = .ok (.putfield 74, 3) := by decide +kernel
theorem dX2_bringEncore_5 : decode cX2_bringEncore 5 = .ok (.aload_n 0, 1) := by decide +kernel
theorem dX2_bringEncore_6 : decode cX2_bringEncore 6 = .ok (.getfield 30, 3) := by decide +kernel
theorem dX2_bringEncore_9 : decode cX2_bringEncore 9 = .ok (.aload_n 0, 1) := by decide +kernel
theorem dX2_bringEncore_10 : decode cX2_bringEncore 10 = .ok (.getfield 40, 3) := by decide +kernel
theorem dX2_bringEncore_13 : decode cX2_bringEncore 13 = .ok (.aload_n 0, 1) := by decide +kernel
theorem dX2_bringEncore_14 : decode cX2_bringEncore 14 = .ok (.getfield 65, 3) := by decide +kernel
theorem dX2_bringEncore_17 : decode cX2_bringEncore 17 = .ok (.invokevirtual 126, 3) := by decide +kernel
theorem dX2_bringEncore_20 : decode cX2_bringEncore 20 = .ok (.ifCond .ne 12, 3) := by decide +kernel
theorem dX2_bringEncore_23 : decode cX2_bringEncore 23 = .ok (.aload_n 0, 1) := by decide +kernel
theorem dX2_bringEncore_24 : decode cX2_bringEncore 24 = .ok (.getfield 34, 3) := by decide +kernel
theorem dX2_bringEncore_27 : decode cX2_bringEncore 27 = .ok (.iconst 2, 1) := by decide +kernel
theorem dX2_bringEncore_28 : decode cX2_bringEncore 28 = .ok (.iconst 1, 1) := by decide +kernel
theorem dX2_bringEncore_29 : decode cX2_bringEncore 29 = .ok (.invokevirtual 107, 3) := by decide +kernel
theorem dX2_bringEncore_32 : decode cX2_bringEncore 32 = .ok (.return_, 1) := by decide +kernel
set_option maxRecDepth 20000 in
theorem ggX2_letPass_X5_at : GoodIn wsX2_letPass wsX5_at := goodIn_r _ [11, 12, 50] (by decide +kernel) (by decide +kernel)
set_option maxRecDepth 20000 in
theorem gX2_letPass_X5_at : GoodIn wsX2_letPass (wsV RX2 84 RX5 yX5_at wsX5_at) := goodIn_app (goodIn_of _ (by decide +kernel)) ggX2_letPass_X5_at
set_option maxRecDepth 20000 in
theorem ggX2_letPass_X7_afterSecond : GoodIn wsX2_letPass wsX7_afterSecond := goodIn_r _ [15, 16, 17, 18, 19] (by decide +kernel) (by decide +kernel)
set_option maxRecDepth 20000 in
theorem gX2_letPass_X7_afterSecond_n131 : GoodIn wsX2_letPass (wsX7_afterSecond) := ggX2_letPass_X7_afterSecond
set_option maxRecDepth 20000 in
theorem ggX2_letPass_X0_lapseSince : GoodIn wsX2_letPass wsX0_lapseSince := goodIn_r _ [24, 25, 26, 27, 28, 29, 8, 9, 10, 11, 12, 30, 31, 32, 33, 34, 35, 36, 37, 51, 52, 53, 54, 55, 56, 50] (by decide +kernel) (by decide +kernel)
set_option maxRecDepth 20000 in
theorem gX2_letPass_X0_lapseSince : GoodIn wsX2_letPass (wsV RX2 134 RX0 yX0_lapseSince wsX0_lapseSince) := goodIn_app (goodIn_of _ (by decide +kernel)) ggX2_letPass_X0_lapseSince
set_option maxRecDepth 20000 in
theorem ggX2_letPass_X5_add : GoodIn wsX2_letPass wsX5_add := goodIn_r _ [33, 12, 50] (by decide +kernel) (by decide +kernel)
set_option maxRecDepth 20000 in
theorem gX2_letPass_X5_add : GoodIn wsX2_letPass (wsV RX2 107 RX5 yX5_add wsX5_add) := goodIn_app (goodIn_of _ (by decide +kernel)) ggX2_letPass_X5_add
theorem dX2_letPass_0 : decode cX2_letPass 0 = .ok (.iload_n 1, 1) := by decide +kernel
theorem dX2_letPass_1 : decode cX2_letPass 1 = .ok (.iconst 1, 1) := by decide +kernel
theorem dX2_letPass_2 : decode cX2_letPass 2 = .ok (.if_icmp .lt 9, 3) := by decide +kernel
theorem dX2_letPass_5 : decode cX2_letPass 5 = .ok (.iload_n 1, 1) := by decide +kernel
theorem dX2_letPass_6 : decode cX2_letPass 6 = .ok (.bipush 99, 2) := by decide +kernel
theorem dX2_letPass_8 : decode cX2_letPass 8 = .ok (.if_icmp .le 6, 3) := by decide +kernel
theorem dX2_letPass_11 : decode cX2_letPass 11 = .ok (.bipush (-2), 2) := by decide +kernel
theorem dX2_letPass_13 : decode cX2_letPass 13 = .ok (.ireturn, 1) := by decide +kernel
theorem dX2_letPass_14 : decode cX2_letPass 14 = .ok (.aload_n 0, 1) := by decide +kernel
theorem dX2_letPass_15 : decode cX2_letPass 15 = .ok (.getfield 65, 3) := by decide +kernel
theorem dX2_letPass_18 : decode cX2_letPass 18 = .ok (.ldc 130, 2) := by decide +kernel
theorem dX2_letPass_20 : decode cX2_letPass 20 = .ok (.iload_n 1, 1) := by decide +kernel
theorem dX2_letPass_21 : decode cX2_letPass 21 = .ok (.isub, 1) := by decide +kernel
theorem dX2_letPass_22 : decode cX2_letPass 22 = .ok (.if_icmp .le 6, 3) := by decide +kernel
theorem dX2_letPass_25 : decode cX2_letPass 25 = .ok (.bipush (-5), 2) := by decide +kernel
theorem dX2_letPass_27 : decode cX2_letPass 27 = .ok (.ireturn, 1) := by decide +kernel
theorem dX2_letPass_28 : decode cX2_letPass 28 = .ok (.iconst 0, 1) := by decide +kernel
theorem dX2_letPass_29 : decode cX2_letPass 29 = .ok (.istore_n 2, 1) := by decide +kernel
theorem dX2_letPass_30 : decode cX2_letPass 30 = .ok (.iload_n 2, 1) := by decide +kernel
theorem dX2_letPass_31 : decode cX2_letPass 31 = .ok (.iload_n 1, 1) := by decide +kernel
theorem dX2_letPass_32 : decode cX2_letPass 32 = .ok (.if_icmp .ge 66, 3) := by decide +kernel
theorem dX2_letPass_35 : decode cX2_letPass 35 = .ok (.aload_n 0, 1) := by decide +kernel
theorem dX2_letPass_36 : decode cX2_letPass 36 = .ok (.aload_n 0, 1) := by decide +kernel
theorem dX2_letPass_37 : decode cX2_letPass 37 = .ok (.getfield 62, 3) := by decide +kernel
theorem dX2_letPass_40 : decode cX2_letPass 40 = .ok (.aload_n 0, 1) := by decide +kernel
theorem dX2_letPass_41 : decode cX2_letPass 41 = .ok (.getfield 14, 3) := by decide +kernel
theorem dX2_letPass_44 : decode cX2_letPass 44 = .ok (.iconst 0, 1) := by decide +kernel
theorem dX2_letPass_45 : decode cX2_letPass 45 = .ok (.invokevirtual 84, 3) := by decide +kernel
theorem dX2_letPass_48 : decode cX2_letPass 48 = .ok (.invokestatic 131, 3) := by decide +kernel
theorem dX2_letPass_51 : decode cX2_letPass 51 = .ok (.putfield 62, 3) := by decide +kernel
theorem dX2_letPass_54 : decode cX2_letPass 54 = .ok (.aload_n 0, 1) := by decide +kernel
theorem dX2_letPass_55 : decode cX2_letPass 55 = .ok (.dup, 1) := by decide +kernel
theorem dX2_letPass_56 : decode cX2_letPass 56 = .ok (.getfield 65, 3) := by decide +kernel
theorem dX2_letPass_59 : decode cX2_letPass 59 = .ok (.iconst 1, 1) := by decide +kernel
theorem dX2_letPass_60 : decode cX2_letPass 60 = .ok (.iadd, 1) := by decide +kernel
theorem dX2_letPass_61 : decode cX2_letPass 61 = .ok (.putfield 65, 3) := by decide +kernel
theorem dX2_letPass_64 : decode cX2_letPass 64 = .ok (.aload_n 0, 1) := by decide +kernel
theorem dX2_letPass_65 : decode cX2_letPass 65 = .ok (.getfield 34, 3) := by decide +kernel
theorem dX2_letPass_68 : decode cX2_letPass 68 = .ok (.iconst 2, 1) := by decide +kernel
theorem dX2_letPass_69 : decode cX2_letPass 69 = .ok (.aload_n 0, 1) := by decide +kernel
theorem dX2_letPass_70 : decode cX2_letPass 70 = .ok (.getfield 30, 3) := by decide +kernel
theorem dX2_letPass_73 : decode cX2_letPass 73 = .ok (.aload_n 0, 1) := by decide +kernel
theorem dX2_letPass_74 : decode cX2_letPass 74 = .ok (.getfield 65, 3) := by decide +kernel
theorem dX2_letPass_77 : decode cX2_letPass 77 = .ok (.aload_n 0, 1) := by decide +kernel
theorem dX2_letPass_78 : decode cX2_letPass 78 = .ok (.getfield 14, 3) := by decide +kernel
theorem dX2_letPass_81 : decode cX2_letPass 81 = .ok (.iconst 2, 1) := by decide +kernel
theorem dX2_letPass_82 : decode cX2_letPass 82 = .ok (.invokevirtual 84, 3) := by decide +kernel
theorem dX2_letPass_85 : decode cX2_letPass 85 = .ok (.isub, 1) := by decide +kernel
theorem dX2_letPass_86 : decode cX2_letPass 86 = .ok (.invokevirtual 134, 3) := by decide +kernel
theorem dX2_letPass_89 : decode cX2_letPass 89 = .ok (.invokevirtual 107, 3) := by decide +kernel
theorem dX2_letPass_92 : decode cX2_letPass 92 = .ok (.iinc 2 1, 3) := by decide +kernel
theorem dX2_letPass_95 : decode cX2_letPass 95 = .ok (.goto (-65), 3) := by decide +kernel
theorem dX2_letPass_98 : decode cX2_letPass 98 = .ok (.aload_n 0, 1) := by decide +kernel
theorem dX2_letPass_99 : decode cX2_letPass 99 = .ok (.getfield 62, 3) := by decide +kernel
theorem dX2_letPass_102 : decode cX2_letPass 102 = .ok (.ireturn, 1) := by decide +kernel
set_option maxRecDepth 20000 in
theorem ggX2_playEncore_X7_isPerformer : GoodIn wsX2_playEncore wsX7_isPerformer := goodIn_r _ [5] (by decide +kernel) (by decide +kernel)
set_option maxRecDepth 20000 in
theorem gX2_playEncore_X7_isPerformer_n98 : GoodIn wsX2_playEncore (wsX7_isPerformer) := ggX2_playEncore_X7_isPerformer
set_option maxRecDepth 20000 in
theorem ggX2_playEncore_X0_playEarliestOf : GoodIn wsX2_playEncore wsX0_playEarliestOf := goodIn_r _ [10, 11, 12, 13, 14, 15, 16, 17, 9, 18, 19, 20, 21, 22, 23, 24, 25, 26, 27, 28, 29, 30, 31, 32, 66, 67, 68, 69, 70, 71, 72] (by decide +kernel) (by decide +kernel)
set_option maxRecDepth 20000 in
theorem gX2_playEncore_X0_playEarliestOf : GoodIn wsX2_playEncore (wsV RX2 137 RX0 yX0_playEarliestOf wsX0_playEarliestOf) := goodIn_app (goodIn_of _ (by decide +kernel)) ggX2_playEncore_X0_playEarliestOf
set_option maxRecDepth 20000 in
theorem ggX2_playEncore_X5_add : GoodIn wsX2_playEncore wsX5_add := goodIn_r _ [32, 24, 72] (by decide +kernel) (by decide +kernel)
set_option maxRecDepth 20000 in
theorem gX2_playEncore_X5_add : GoodIn wsX2_playEncore (wsV RX2 107 RX5 yX5_add wsX5_add) := goodIn_app (goodIn_of _ (by decide +kernel)) ggX2_playEncore_X5_add
set_option maxRecDepth 20000 in
theorem ggX2_playEncore_X2_beginApplause : GoodIn wsX2_playEncore wsX2_beginApplause := goodIn_r _ [38, 1, 39, 40, 41, 42, 43, 44, 33, 30, 31, 22, 32, 24, 45, 46, 47, 48, 49, 50, 55, 56, 57, 58, 59, 60, 61, 62, 63, 64, 65, 66, 67, 68, 69, 70, 71, 72, 73, 74, 75, 76, 77, 78, 79, 80] (by decide +kernel) (by decide +kernel)
set_option maxRecDepth 20000 in
theorem gX2_playEncore_X2_beginApplause : GoodIn wsX2_playEncore (wsV RX2 101 RX2 yX2_beginApplause wsX2_beginApplause) := goodIn_app (goodIn_of _ (by decide +kernel)) ggX2_playEncore_X2_beginApplause
set_option maxRecDepth 20000 in
theorem ggX2_playEncore_X0_owedBy : GoodIn wsX2_playEncore wsX0_owedBy := goodIn_r _ [54, 11, 12, 19, 20, 21, 22, 23, 24, 66, 67, 68, 69, 70, 71, 72] (by decide +kernel) (by decide +kernel)
set_option maxRecDepth 20000 in
theorem gX2_playEncore_X0_owedBy : GoodIn wsX2_playEncore (wsV RX2 140 RX0 yX0_owedBy wsX0_owedBy) := goodIn_app (goodIn_of _ (by decide +kernel)) ggX2_playEncore_X0_owedBy
theorem dX2_playEncore_0 : decode cX2_playEncore 0 = .ok (.iload_n 1, 1) := by decide +kernel
theorem dX2_playEncore_1 : decode cX2_playEncore 1 = .ok (.invokestatic 98, 3) := by decide +kernel
theorem dX2_playEncore_4 : decode cX2_playEncore 4 = .ok (.ifCond .ne 5, 3) := by decide +kernel
theorem dX2_playEncore_7 : decode cX2_playEncore 7 = .ok (.iconst (-1), 1) := by decide +kernel
theorem dX2_playEncore_8 : decode cX2_playEncore 8 = .ok (.ireturn, 1) := by decide +kernel
theorem dX2_playEncore_9 : decode cX2_playEncore 9 = .ok (.aload_n 0, 1) := by decide +kernel
theorem dX2_playEncore_10 : decode cX2_playEncore 10 = .ok (.getfield 30, 3) := by decide +kernel
theorem dX2_playEncore_13 : decode cX2_playEncore 13 = .ok (.iload_n 1, 1) := by decide +kernel
theorem dX2_playEncore_14 : decode cX2_playEncore 14 = .ok (.invokevirtual 137, 3) := by decide +kernel
theorem dX2_playEncore_17 : decode cX2_playEncore 17 = .ok (.ifCond .ne 6, 3) := by decide +kernel
theorem dX2_playEncore_20 : decode cX2_playEncore 20 = .ok (.bipush (-5), 2) := by decide +kernel
theorem dX2_playEncore_22 : decode cX2_playEncore 22 = .ok (.ireturn, 1) := by decide +kernel
theorem dX2_playEncore_23 : decode cX2_playEncore 23 = .ok (.aload_n 0, 1) := by decide +kernel
theorem dX2_playEncore_24 : decode cX2_playEncore 24 = .ok (.getfield 34, 3) := by decide +kernel
theorem dX2_playEncore_27 : decode cX2_playEncore 27 = .ok (.iconst 1, 1) := by decide +kernel
theorem dX2_playEncore_28 : decode cX2_playEncore 28 = .ok (.iconst 1, 1) := by decide +kernel
theorem dX2_playEncore_29 : decode cX2_playEncore 29 = .ok (.invokevirtual 107, 3) := by decide +kernel
theorem dX2_playEncore_32 : decode cX2_playEncore 32 = .ok (.aload_n 0, 1) := by decide +kernel
theorem dX2_playEncore_33 : decode cX2_playEncore 33 = .ok (.iload_n 1, 1) := by decide +kernel
theorem dX2_playEncore_34 : decode cX2_playEncore 34 = .ok (.invokevirtual 101, 3) := by decide +kernel
theorem dX2_playEncore_37 : decode cX2_playEncore 37 = .ok (.aload_n 0, 1) := by decide +kernel
theorem dX2_playEncore_38 : decode cX2_playEncore 38 = .ok (.getfield 30, 3) := by decide +kernel
theorem dX2_playEncore_41 : decode cX2_playEncore 41 = .ok (.iload_n 1, 1) := by decide +kernel
theorem dX2_playEncore_42 : decode cX2_playEncore 42 = .ok (.invokevirtual 140, 3) := by decide +kernel
theorem dX2_playEncore_45 : decode cX2_playEncore 45 = .ok (.ireturn, 1) := by decide +kernel
set_option maxRecDepth 20000 in
theorem ggX2_takeCurtain_X5_at : GoodIn wsX2_takeCurtain wsX5_at := goodIn_r _ [8, 9, 25] (by decide +kernel) (by decide +kernel)
set_option maxRecDepth 20000 in
theorem gX2_takeCurtain_X5_at : GoodIn wsX2_takeCurtain (wsV RX2 84 RX5 yX5_at wsX5_at) := goodIn_app (goodIn_of _ (by decide +kernel)) ggX2_takeCurtain_X5_at
set_option maxRecDepth 20000 in
theorem ggX2_takeCurtain_X5_add : GoodIn wsX2_takeCurtain wsX5_add := goodIn_r _ [13, 9, 25] (by decide +kernel) (by decide +kernel)
set_option maxRecDepth 20000 in
theorem gX2_takeCurtain_X5_add : GoodIn wsX2_takeCurtain (wsV RX2 107 RX5 yX5_add wsX5_add) := goodIn_app (goodIn_of _ (by decide +kernel)) ggX2_takeCurtain_X5_add
theorem dX2_takeCurtain_0 : decode cX2_takeCurtain 0 = .ok (.aload_n 0, 1) := by decide +kernel
theorem dX2_takeCurtain_1 : decode cX2_takeCurtain 1 = .ok (.getfield 62, 3) := by decide +kernel
theorem dX2_takeCurtain_4 : decode cX2_takeCurtain 4 = .ok (.aload_n 0, 1) := by decide +kernel
theorem dX2_takeCurtain_5 : decode cX2_takeCurtain 5 = .ok (.getfield 14, 3) := by decide +kernel
theorem dX2_takeCurtain_8 : decode cX2_takeCurtain 8 = .ok (.iconst 5, 1) := by decide +kernel
theorem dX2_takeCurtain_9 : decode cX2_takeCurtain 9 = .ok (.invokevirtual 84, 3) := by decide +kernel
theorem dX2_takeCurtain_12 : decode cX2_takeCurtain 12 = .ok (.if_icmp .ge 6, 3) := by decide +kernel
theorem dX2_takeCurtain_15 : decode cX2_takeCurtain 15 = .ok (.bipush (-5), 2) := by decide +kernel
theorem dX2_takeCurtain_17 : decode cX2_takeCurtain 17 = .ok (.ireturn, 1) := by decide +kernel
theorem dX2_takeCurtain_18 : decode cX2_takeCurtain 18 = .ok (.aload_n 0, 1) := by decide +kernel
theorem dX2_takeCurtain_19 : decode cX2_takeCurtain 19 = .ok (.dup, 1) := by decide +kernel
theorem dX2_takeCurtain_20 : decode cX2_takeCurtain 20 = .ok (.getfield 62, 3) := by decide +kernel
theorem dX2_takeCurtain_23 : decode cX2_takeCurtain 23 = .ok (.iconst 2, 1) := by decide +kernel
theorem dX2_takeCurtain_24 : decode cX2_takeCurtain 24 = .ok (.idiv, 1) := by decide +kernel
theorem dX2_takeCurtain_25 : decode cX2_takeCurtain 25 = .ok (.putfield 62, 3) := by decide +kernel
theorem dX2_takeCurtain_28 : decode cX2_takeCurtain 28 = .ok (.aload_n 0, 1) := by decide +kernel
theorem dX2_takeCurtain_29 : decode cX2_takeCurtain 29 = .ok (.getfield 34, 3) := by decide +kernel
theorem dX2_takeCurtain_32 : decode cX2_takeCurtain 32 = .ok (.iconst 3, 1) := by decide +kernel
theorem dX2_takeCurtain_33 : decode cX2_takeCurtain 33 = .ok (.iconst 1, 1) := by decide +kernel
theorem dX2_takeCurtain_34 : decode cX2_takeCurtain 34 = .ok (.invokevirtual 107, 3) := by decide +kernel
theorem dX2_takeCurtain_37 : decode cX2_takeCurtain 37 = .ok (.aload_n 0, 1) := by decide +kernel
theorem dX2_takeCurtain_38 : decode cX2_takeCurtain 38 = .ok (.getfield 62, 3) := by decide +kernel
theorem dX2_takeCurtain_41 : decode cX2_takeCurtain 41 = .ok (.ireturn, 1) := by decide +kernel
set_option maxRecDepth 20000 in
theorem ggX2_endNight_X0_lapseSince : GoodIn wsX2_endNight wsX0_lapseSince := goodIn_r _ [13, 14, 15, 16, 17, 18, 19, 20, 21, 22, 23, 24, 25, 26, 27, 28, 29, 30, 31, 63, 64, 65, 66, 67, 68, 69] (by decide +kernel) (by decide +kernel)
set_option maxRecDepth 20000 in
theorem gX2_endNight_X0_lapseSince : GoodIn wsX2_endNight (wsV RX2 134 RX0 yX0_lapseSince wsX0_lapseSince) := goodIn_app (goodIn_of _ (by decide +kernel)) ggX2_endNight_X0_lapseSince
set_option maxRecDepth 20000 in
theorem ggX2_endNight_X5_add : GoodIn wsX2_endNight wsX5_add := goodIn_r _ [27, 23, 69] (by decide +kernel) (by decide +kernel)
set_option maxRecDepth 20000 in
theorem gX2_endNight_X5_add : GoodIn wsX2_endNight (wsV RX2 107 RX5 yX5_add wsX5_add) := goodIn_app (goodIn_of _ (by decide +kernel)) ggX2_endNight_X5_add
set_option maxRecDepth 20000 in
theorem ggX2_endNight_X2_recordPlace : GoodIn wsX2_endNight wsX2_recordPlace := goodIn_r _ [36] (by decide +kernel) (by decide +kernel)
set_option maxRecDepth 20000 in
theorem gX2_endNight_X2_recordPlace : GoodIn wsX2_endNight (va_wsS RX2 143 yX2_recordPlace wsX2_recordPlace) := goodIn_app (goodIn_of _ (by decide +kernel)) ggX2_endNight_X2_recordPlace
set_option maxRecDepth 20000 in
theorem ggX2_endNight_X5_at : GoodIn wsX2_endNight wsX5_at := goodIn_r _ [22, 23, 69] (by decide +kernel) (by decide +kernel)
set_option maxRecDepth 20000 in
theorem gX2_endNight_X5_at : GoodIn wsX2_endNight (wsV RX2 84 RX5 yX5_at wsX5_at) := goodIn_app (goodIn_of _ (by decide +kernel)) ggX2_endNight_X5_at
set_option maxRecDepth 20000 in
theorem ggX2_endNight_X5_store : GoodIn wsX2_endNight wsX5_store := goodIn_r _ [31, 23, 69] (by decide +kernel) (by decide +kernel)
set_option maxRecDepth 20000 in
theorem gX2_endNight_X5_store : GoodIn wsX2_endNight (wsV RX2 48 RX5 yX5_store wsX5_store) := goodIn_app (goodIn_of _ (by decide +kernel)) ggX2_endNight_X5_store
set_option maxRecDepth 20000 in
theorem ggX2_endNight_X5_fill : GoodIn wsX2_endNight wsX5_fill := goodIn_r _ [42, 23, 69] (by decide +kernel) (by decide +kernel)
set_option maxRecDepth 20000 in
theorem gX2_endNight_X5_fill : GoodIn wsX2_endNight (wsV RX2 146 RX5 yX5_fill wsX5_fill) := goodIn_app (goodIn_of _ (by decide +kernel)) ggX2_endNight_X5_fill
set_option maxRecDepth 20000 in
theorem ggX2_endNight_X6_beginNight : GoodIn wsX2_endNight wsX6_beginNight := goodIn_r _ [47, 48, 49, 50, 51, 40, 41, 21, 42, 23, 70, 71, 72, 73, 74, 75, 76, 77, 69] (by decide +kernel) (by decide +kernel)
set_option maxRecDepth 20000 in
theorem gX2_endNight_X6_beginNight : GoodIn wsX2_endNight (wsV RX2 149 RX6 yX6_beginNight wsX6_beginNight) := goodIn_app (goodIn_of _ (by decide +kernel)) ggX2_endNight_X6_beginNight
theorem dX2_endNight_0 : decode cX2_endNight 0 = .ok (.aload_n 0, 1) := by decide +kernel
theorem dX2_endNight_1 : decode cX2_endNight 1 = .ok (.getfield 68, 3) := by decide +kernel
theorem dX2_endNight_4 : decode cX2_endNight 4 = .ok (.bipush 99, 2) := by decide +kernel
theorem dX2_endNight_6 : decode cX2_endNight 6 = .ok (.if_icmp .lt 6, 3) := by decide +kernel
theorem dX2_endNight_9 : decode cX2_endNight 9 = .ok (.bipush (-5), 2) := by decide +kernel
theorem dX2_endNight_11 : decode cX2_endNight 11 = .ok (.ireturn, 1) := by decide +kernel
theorem dX2_endNight_12 : decode cX2_endNight 12 = .ok (.aload_n 0, 1) := by decide +kernel
theorem dX2_endNight_13 : decode cX2_endNight 13 = .ok (.getfield 30, 3) := by decide +kernel
theorem dX2_endNight_16 : decode cX2_endNight 16 = .ok (.aload_n 0, 1) := by decide +kernel
theorem dX2_endNight_17 : decode cX2_endNight 17 = .ok (.getfield 65, 3) := by decide +kernel
theorem dX2_endNight_20 : decode cX2_endNight 20 = .ok (.invokevirtual 134, 3) := by decide +kernel
theorem dX2_endNight_23 : decode cX2_endNight 23 = .ok (.istore_n 1, 1) := by decide +kernel
theorem dX2_endNight_24 : decode cX2_endNight 24 = .ok (.aload_n 0, 1) := by decide +kernel
theorem dX2_endNight_25 : decode cX2_endNight 25 = .ok (.getfield 34, 3) := by decide +kernel
theorem dX2_endNight_28 : decode cX2_endNight 28 = .ok (.iconst 2, 1) := by decide +kernel
theorem dX2_endNight_29 : decode cX2_endNight 29 = .ok (.iload_n 1, 1) := by decide +kernel
theorem dX2_endNight_30 : decode cX2_endNight 30 = .ok (.invokevirtual 107, 3) := by decide +kernel
theorem dX2_endNight_33 : decode cX2_endNight 33 = .ok (.iconst 0, 1) := by decide +kernel
theorem dX2_endNight_34 : decode cX2_endNight 34 = .ok (.istore_n 2, 1) := by decide +kernel
theorem dX2_endNight_35 : decode cX2_endNight 35 = .ok (.iload_n 2, 1) := by decide +kernel
theorem dX2_endNight_36 : decode cX2_endNight 36 = .ok (.iconst 4, 1) := by decide +kernel
theorem dX2_endNight_37 : decode cX2_endNight 37 = .ok (.if_icmp .ge 32, 3) := by decide +kernel
theorem dX2_endNight_40 : decode cX2_endNight 40 = .ok (.aload_n 0, 1) := by decide +kernel
theorem dX2_endNight_41 : decode cX2_endNight 41 = .ok (.getfield 37, 3) := by decide +kernel
theorem dX2_endNight_44 : decode cX2_endNight 44 = .ok (.aload_n 0, 1) := by decide +kernel
theorem dX2_endNight_45 : decode cX2_endNight 45 = .ok (.getfield 68, 3) := by decide +kernel
theorem dX2_endNight_48 : decode cX2_endNight 48 = .ok (.iload_n 2, 1) := by decide +kernel
theorem dX2_endNight_49 : decode cX2_endNight 49 = .ok (.invokestatic 143, 3) := by decide +kernel
theorem dX2_endNight_52 : decode cX2_endNight 52 = .ok (.aload_n 0, 1) := by decide +kernel
theorem dX2_endNight_53 : decode cX2_endNight 53 = .ok (.getfield 34, 3) := by decide +kernel
theorem dX2_endNight_56 : decode cX2_endNight 56 = .ok (.iload_n 2, 1) := by decide +kernel
theorem dX2_endNight_57 : decode cX2_endNight 57 = .ok (.invokevirtual 84, 3) := by decide +kernel
theorem dX2_endNight_60 : decode cX2_endNight 60 = .ok (.invokevirtual 48, 3) := by decide +kernel
theorem dX2_endNight_63 : decode cX2_endNight 63 = .ok (.iinc 2 1, 3) := by decide +kernel
theorem dX2_endNight_66 : decode cX2_endNight 66 = .ok (.goto (-31), 3) := by decide +kernel
theorem dX2_endNight_69 : decode cX2_endNight 69 = .ok (.aload_n 0, 1) := by decide +kernel
theorem dX2_endNight_70 : decode cX2_endNight 70 = .ok (.dup, 1) := by decide +kernel
theorem dX2_endNight_71 : decode cX2_endNight 71 = .ok (.getfield 68, 3) := by decide +kernel
theorem dX2_endNight_74 : decode cX2_endNight 74 = .ok (.iconst 1, 1) := by decide +kernel
theorem dX2_endNight_75 : decode cX2_endNight 75 = .ok (.iadd, 1) := by decide +kernel
theorem dX2_endNight_76 : decode cX2_endNight 76 = .ok (.putfield 68, 3) := by decide +kernel
theorem dX2_endNight_79 : decode cX2_endNight 79 = .ok (.aload_n 0, 1) := by decide +kernel
theorem dX2_endNight_80 : decode cX2_endNight 80 = .ok (.getfield 34, 3) := by decide +kernel
theorem dX2_endNight_83 : decode cX2_endNight 83 = .ok (.iconst 0, 1) := by decide +kernel
theorem dX2_endNight_84 : decode cX2_endNight 84 = .ok (.invokevirtual 146, 3) := by decide +kernel
theorem dX2_endNight_87 : decode cX2_endNight 87 = .ok (.aload_n 0, 1) := by decide +kernel
theorem dX2_endNight_88 : decode cX2_endNight 88 = .ok (.getfield 23, 3) := by decide +kernel
theorem dX2_endNight_91 : decode cX2_endNight 91 = .ok (.invokevirtual 149, 3) := by decide +kernel
theorem dX2_endNight_94 : decode cX2_endNight 94 = .ok (.aload_n 0, 1) := by decide +kernel
theorem dX2_endNight_95 : decode cX2_endNight 95 = .ok (.iconst 0, 1) := by decide +kernel
theorem dX2_endNight_96 : decode cX2_endNight 96 = .ok (.putfield 62, 3) := by decide +kernel
theorem dX2_endNight_99 : decode cX2_endNight 99 = .ok (.aload_n 0, 1) := by decide +kernel
theorem dX2_endNight_100 : decode cX2_endNight 100 = .ok (.bipush (-6), 2) := by decide +kernel
theorem dX2_endNight_102 : decode cX2_endNight 102 = .ok (.putfield 40, 3) := by decide +kernel
theorem dX2_endNight_105 : decode cX2_endNight 105 = .ok (.iload_n 1, 1) := by decide +kernel
theorem dX2_endNight_106 : decode cX2_endNight 106 = .ok (.ireturn, 1) := by decide +kernel
theorem dX2_recordPlace_0 : decode cX2_recordPlace 0 = .ok (.iload_n 0, 1) := by decide +kernel
theorem dX2_recordPlace_1 : decode cX2_recordPlace 1 = .ok (.bipush 6, 2) := by decide +kernel
theorem dX2_recordPlace_3 : decode cX2_recordPlace 3 = .ok (.irem, 1) := by decide +kernel
theorem dX2_recordPlace_4 : decode cX2_recordPlace 4 = .ok (.iconst 4, 1) := by decide +kernel
theorem dX2_recordPlace_5 : decode cX2_recordPlace 5 = .ok (.imul, 1) := by decide +kernel
theorem dX2_recordPlace_6 : decode cX2_recordPlace 6 = .ok (.iload_n 1, 1) := by decide +kernel
theorem dX2_recordPlace_7 : decode cX2_recordPlace 7 = .ok (.iadd, 1) := by decide +kernel
theorem dX2_recordPlace_8 : decode cX2_recordPlace 8 = .ok (.ireturn, 1) := by decide +kernel
set_option maxRecDepth 20000 in
theorem ggX2_aboutSeat_X7_isSeat : GoodIn wsX2_aboutSeat wsX7_isSeat := goodIn_r _ [5] (by decide +kernel) (by decide +kernel)
set_option maxRecDepth 20000 in
theorem gX2_aboutSeat_X7_isSeat_n88 : GoodIn wsX2_aboutSeat (wsX7_isSeat) := ggX2_aboutSeat_X7_isSeat
set_option maxRecDepth 20000 in
theorem ggX2_aboutSeat_X5_at : GoodIn wsX2_aboutSeat wsX5_at := goodIn_r _ [10, 11, 37] (by decide +kernel) (by decide +kernel)
set_option maxRecDepth 20000 in
theorem gX2_aboutSeat_X5_at : GoodIn wsX2_aboutSeat (wsV RX2 84 RX5 yX5_at wsX5_at) := goodIn_app (goodIn_of _ (by decide +kernel)) ggX2_aboutSeat_X5_at
set_option maxRecDepth 20000 in
theorem ggX2_aboutSeat_X6_hasClapped : GoodIn wsX2_aboutSeat wsX6_hasClapped := goodIn_r _ [16, 17, 29, 30, 31, 32, 33, 34, 35, 36] (by decide +kernel) (by decide +kernel)
set_option maxRecDepth 20000 in
theorem gX2_aboutSeat_X6_hasClapped : GoodIn wsX2_aboutSeat (wsV RX2 164 RX6 yX6_hasClapped wsX6_hasClapped) := goodIn_app (goodIn_of _ (by decide +kernel)) ggX2_aboutSeat_X6_hasClapped
theorem dX2_aboutSeat_0 : decode cX2_aboutSeat 0 = .ok (.iload_n 1, 1) := by decide +kernel
theorem dX2_aboutSeat_1 : decode cX2_aboutSeat 1 = .ok (.invokestatic 88, 3) := by decide +kernel
theorem dX2_aboutSeat_4 : decode cX2_aboutSeat 4 = .ok (.ifCond .ne 5, 3) := by decide +kernel
theorem dX2_aboutSeat_7 : decode cX2_aboutSeat 7 = .ok (.iconst (-1), 1) := by decide +kernel
theorem dX2_aboutSeat_8 : decode cX2_aboutSeat 8 = .ok (.ireturn, 1) := by decide +kernel
theorem dX2_aboutSeat_9 : decode cX2_aboutSeat 9 = .ok (.iload_n 2, 1) := by decide +kernel
theorem dX2_aboutSeat_10 : decode cX2_aboutSeat 10 = .ok (.tableswitch 147 0 6 #[42, 54, 66, 94, 106, 118, 135], 42) := by decide +kernel
theorem dX2_aboutSeat_52 : decode cX2_aboutSeat 52 = .ok (.aload_n 0, 1) := by decide +kernel
theorem dX2_aboutSeat_53 : decode cX2_aboutSeat 53 = .ok (.getfield 23, 3) := by decide +kernel
theorem dX2_aboutSeat_56 : decode cX2_aboutSeat 56 = .ok (.getfield 92, 3) := by decide +kernel
theorem dX2_aboutSeat_59 : decode cX2_aboutSeat 59 = .ok (.iload_n 1, 1) := by decide +kernel
theorem dX2_aboutSeat_60 : decode cX2_aboutSeat 60 = .ok (.invokevirtual 84, 3) := by decide +kernel
theorem dX2_aboutSeat_63 : decode cX2_aboutSeat 63 = .ok (.ireturn, 1) := by decide +kernel
theorem dX2_aboutSeat_64 : decode cX2_aboutSeat 64 = .ok (.aload_n 0, 1) := by decide +kernel
theorem dX2_aboutSeat_65 : decode cX2_aboutSeat 65 = .ok (.getfield 23, 3) := by decide +kernel
theorem dX2_aboutSeat_68 : decode cX2_aboutSeat 68 = .ok (.getfield 95, 3) := by decide +kernel
theorem dX2_aboutSeat_71 : decode cX2_aboutSeat 71 = .ok (.iload_n 1, 1) := by decide +kernel
theorem dX2_aboutSeat_72 : decode cX2_aboutSeat 72 = .ok (.ishr, 1) := by decide +kernel
theorem dX2_aboutSeat_73 : decode cX2_aboutSeat 73 = .ok (.iconst 1, 1) := by decide +kernel
theorem dX2_aboutSeat_74 : decode cX2_aboutSeat 74 = .ok (.iand, 1) := by decide +kernel
theorem dX2_aboutSeat_75 : decode cX2_aboutSeat 75 = .ok (.ireturn, 1) := by decide +kernel
theorem dX2_aboutSeat_76 : decode cX2_aboutSeat 76 = .ok (.aload_n 0, 1) := by decide +kernel
theorem dX2_aboutSeat_77 : decode cX2_aboutSeat 77 = .ok (.getfield 23, 3) := by decide +kernel
theorem dX2_aboutSeat_80 : decode cX2_aboutSeat 80 = .ok (.getfield 158, 3) := by decide +kernel
theorem dX2_aboutSeat_83 : decode cX2_aboutSeat 83 = .ok (.iload_n 1, 1) := by decide +kernel
theorem dX2_aboutSeat_84 : decode cX2_aboutSeat 84 = .ok (.invokevirtual 84, 3) := by decide +kernel
theorem dX2_aboutSeat_87 : decode cX2_aboutSeat 87 = .ok (.aload_n 0, 1) := by decide +kernel
theorem dX2_aboutSeat_88 : decode cX2_aboutSeat 88 = .ok (.getfield 14, 3) := by decide +kernel
theorem dX2_aboutSeat_91 : decode cX2_aboutSeat 91 = .ok (.iconst 4, 1) := by decide +kernel
theorem dX2_aboutSeat_92 : decode cX2_aboutSeat 92 = .ok (.invokevirtual 84, 3) := by decide +kernel
theorem dX2_aboutSeat_95 : decode cX2_aboutSeat 95 = .ok (.if_icmp .lt 7, 3) := by decide +kernel
theorem dX2_aboutSeat_98 : decode cX2_aboutSeat 98 = .ok (.iconst 1, 1) := by decide +kernel
theorem dX2_aboutSeat_99 : decode cX2_aboutSeat 99 = .ok (.goto 4, 3) := by decide +kernel
theorem dX2_aboutSeat_102 : decode cX2_aboutSeat 102 = .ok (.iconst 0, 1) := by decide +kernel
theorem dX2_aboutSeat_103 : decode cX2_aboutSeat 103 = .ok (.ireturn, 1) := by decide +kernel
theorem dX2_aboutSeat_104 : decode cX2_aboutSeat 104 = .ok (.aload_n 0, 1) := by decide +kernel
theorem dX2_aboutSeat_105 : decode cX2_aboutSeat 105 = .ok (.getfield 23, 3) := by decide +kernel
theorem dX2_aboutSeat_108 : decode cX2_aboutSeat 108 = .ok (.getfield 158, 3) := by decide +kernel
theorem dX2_aboutSeat_111 : decode cX2_aboutSeat 111 = .ok (.iload_n 1, 1) := by decide +kernel
theorem dX2_aboutSeat_112 : decode cX2_aboutSeat 112 = .ok (.invokevirtual 84, 3) := by decide +kernel
theorem dX2_aboutSeat_115 : decode cX2_aboutSeat 115 = .ok (.ireturn, 1) := by decide +kernel
theorem dX2_aboutSeat_116 : decode cX2_aboutSeat 116 = .ok (.aload_n 0, 1) := by decide +kernel
theorem dX2_aboutSeat_117 : decode cX2_aboutSeat 117 = .ok (.getfield 23, 3) := by decide +kernel
theorem dX2_aboutSeat_120 : decode cX2_aboutSeat 120 = .ok (.getfield 161, 3) := by decide +kernel
theorem dX2_aboutSeat_123 : decode cX2_aboutSeat 123 = .ok (.iload_n 1, 1) := by decide +kernel
theorem dX2_aboutSeat_124 : decode cX2_aboutSeat 124 = .ok (.invokevirtual 84, 3) := by decide +kernel
theorem dX2_aboutSeat_127 : decode cX2_aboutSeat 127 = .ok (.ireturn, 1) := by decide +kernel
theorem dX2_aboutSeat_128 : decode cX2_aboutSeat 128 = .ok (.aload_n 0, 1) := by decide +kernel
theorem dX2_aboutSeat_129 : decode cX2_aboutSeat 129 = .ok (.getfield 23, 3) := by decide +kernel
theorem dX2_aboutSeat_132 : decode cX2_aboutSeat 132 = .ok (.iload_n 1, 1) := by decide +kernel
theorem dX2_aboutSeat_133 : decode cX2_aboutSeat 133 = .ok (.invokevirtual 164, 3) := by decide +kernel
theorem dX2_aboutSeat_136 : decode cX2_aboutSeat 136 = .ok (.ifCond .eq 7, 3) := by decide +kernel
theorem dX2_aboutSeat_139 : decode cX2_aboutSeat 139 = .ok (.iconst 1, 1) := by decide +kernel
theorem dX2_aboutSeat_140 : decode cX2_aboutSeat 140 = .ok (.goto 4, 3) := by decide +kernel
theorem dX2_aboutSeat_143 : decode cX2_aboutSeat 143 = .ok (.iconst 0, 1) := by decide +kernel
theorem dX2_aboutSeat_144 : decode cX2_aboutSeat 144 = .ok (.ireturn, 1) := by decide +kernel
theorem dX2_aboutSeat_145 : decode cX2_aboutSeat 145 = .ok (.aload_n 0, 1) := by decide +kernel
theorem dX2_aboutSeat_146 : decode cX2_aboutSeat 146 = .ok (.getfield 23, 3) := by decide +kernel
theorem dX2_aboutSeat_149 : decode cX2_aboutSeat 149 = .ok (.getfield 167, 3) := by decide +kernel
theorem dX2_aboutSeat_152 : decode cX2_aboutSeat 152 = .ok (.iload_n 1, 1) := by decide +kernel
theorem dX2_aboutSeat_153 : decode cX2_aboutSeat 153 = .ok (.invokevirtual 84, 3) := by decide +kernel
theorem dX2_aboutSeat_156 : decode cX2_aboutSeat 156 = .ok (.ireturn, 1) := by decide +kernel
theorem dX2_aboutSeat_157 : decode cX2_aboutSeat 157 = .ok (.bipush (-2), 2) := by decide +kernel
theorem dX2_aboutSeat_159 : decode cX2_aboutSeat 159 = .ok (.ireturn, 1) := by decide +kernel
set_option maxRecDepth 20000 in
theorem ggX2_suspectedNow_X5_at : GoodIn wsX2_suspectedNow wsX5_at := goodIn_r _ [7, 8, 27] (by decide +kernel) (by decide +kernel)
set_option maxRecDepth 20000 in
theorem gX2_suspectedNow_X5_at : GoodIn wsX2_suspectedNow (wsV RX2 84 RX5 yX5_at wsX5_at) := goodIn_app (goodIn_of _ (by decide +kernel)) ggX2_suspectedNow_X5_at
set_option maxRecDepth 20000 in
theorem ggX2_suspectedNow_X6_suspected : GoodIn wsX2_suspectedNow wsX6_suspected := goodIn_r _ [13, 14, 15, 4, 5, 6, 7, 8, 28, 29, 30, 31, 32, 33, 34, 35, 27] (by decide +kernel) (by decide +kernel)
set_option maxRecDepth 20000 in
theorem gX2_suspectedNow_X6_suspected : GoodIn wsX2_suspectedNow (wsV RX2 170 RX6 yX6_suspected wsX6_suspected) := goodIn_app (goodIn_of _ (by decide +kernel)) ggX2_suspectedNow_X6_suspected
theorem dX2_suspectedNow_0 : decode cX2_suspectedNow 0 = .ok (.aload_n 0, 1) := by decide +kernel
theorem dX2_suspectedNow_1 : decode cX2_suspectedNow 1 = .ok (.getfield 23, 3) := by decide +kernel
theorem dX2_suspectedNow_4 : decode cX2_suspectedNow 4 = .ok (.aload_n 0, 1) := by decide +kernel
theorem dX2_suspectedNow_5 : decode cX2_suspectedNow 5 = .ok (.getfield 14, 3) := by decide +kernel
theorem dX2_suspectedNow_8 : decode cX2_suspectedNow 8 = .ok (.iconst 4, 1) := by decide +kernel
theorem dX2_suspectedNow_9 : decode cX2_suspectedNow 9 = .ok (.invokevirtual 84, 3) := by decide +kernel
theorem dX2_suspectedNow_12 : decode cX2_suspectedNow 12 = .ok (.invokevirtual 170, 3) := by decide +kernel
theorem dX2_suspectedNow_15 : decode cX2_suspectedNow 15 = .ok (.ireturn, 1) := by decide +kernel
set_option maxRecDepth 20000 in
theorem ggX2_recordOf_X2_recordPlace : GoodIn wsX2_recordOf wsX2_recordPlace := goodIn_r _ [10] (by decide +kernel) (by decide +kernel)
set_option maxRecDepth 20000 in
theorem gX2_recordOf_X2_recordPlace : GoodIn wsX2_recordOf (va_wsS RX2 143 yX2_recordPlace wsX2_recordPlace) := goodIn_app (goodIn_of _ (by decide +kernel)) ggX2_recordOf_X2_recordPlace
set_option maxRecDepth 20000 in
theorem ggX2_recordOf_X5_at : GoodIn wsX2_recordOf wsX5_at := goodIn_r _ [15, 16, 28] (by decide +kernel) (by decide +kernel)
set_option maxRecDepth 20000 in
theorem gX2_recordOf_X5_at : GoodIn wsX2_recordOf (wsV RX2 84 RX5 yX5_at wsX5_at) := goodIn_app (goodIn_of _ (by decide +kernel)) ggX2_recordOf_X5_at
theorem dX2_recordOf_0 : decode cX2_recordOf 0 = .ok (.iload_n 1, 1) := by decide +kernel
theorem dX2_recordOf_1 : decode cX2_recordOf 1 = .ok (.ifCond .lt 16, 3) := by decide +kernel
theorem dX2_recordOf_4 : decode cX2_recordOf 4 = .ok (.iload_n 1, 1) := by decide +kernel
theorem dX2_recordOf_5 : decode cX2_recordOf 5 = .ok (.aload_n 0, 1) := by decide +kernel
theorem dX2_recordOf_6 : decode cX2_recordOf 6 = .ok (.getfield 68, 3) := by decide +kernel
theorem dX2_recordOf_9 : decode cX2_recordOf 9 = .ok (.bipush 6, 2) := by decide +kernel
theorem dX2_recordOf_11 : decode cX2_recordOf 11 = .ok (.invokestatic 117, 3) := by decide +kernel
theorem dX2_recordOf_14 : decode cX2_recordOf 14 = .ok (.if_icmp .lt 5, 3) := by decide +kernel
theorem dX2_recordOf_17 : decode cX2_recordOf 17 = .ok (.iconst (-1), 1) := by decide +kernel
theorem dX2_recordOf_18 : decode cX2_recordOf 18 = .ok (.ireturn, 1) := by decide +kernel
theorem dX2_recordOf_19 : decode cX2_recordOf 19 = .ok (.iload_n 2, 1) := by decide +kernel
theorem dX2_recordOf_20 : decode cX2_recordOf 20 = .ok (.ifCond .lt 8, 3) := by decide +kernel
theorem dX2_recordOf_23 : decode cX2_recordOf 23 = .ok (.iload_n 2, 1) := by decide +kernel
theorem dX2_recordOf_24 : decode cX2_recordOf 24 = .ok (.iconst 4, 1) := by decide +kernel
theorem dX2_recordOf_25 : decode cX2_recordOf 25 = .ok (.if_icmp .lt 6, 3) := by decide +kernel
theorem dX2_recordOf_28 : decode cX2_recordOf 28 = .ok (.bipush (-2), 2) := by decide +kernel
theorem dX2_recordOf_30 : decode cX2_recordOf 30 = .ok (.ireturn, 1) := by decide +kernel
theorem dX2_recordOf_31 : decode cX2_recordOf 31 = .ok (.aload_n 0, 1) := by decide +kernel
theorem dX2_recordOf_32 : decode cX2_recordOf 32 = .ok (.getfield 37, 3) := by decide +kernel
theorem dX2_recordOf_35 : decode cX2_recordOf 35 = .ok (.aload_n 0, 1) := by decide +kernel
theorem dX2_recordOf_36 : decode cX2_recordOf 36 = .ok (.getfield 68, 3) := by decide +kernel
theorem dX2_recordOf_39 : decode cX2_recordOf 39 = .ok (.iconst 1, 1) := by decide +kernel
theorem dX2_recordOf_40 : decode cX2_recordOf 40 = .ok (.isub, 1) := by decide +kernel
theorem dX2_recordOf_41 : decode cX2_recordOf 41 = .ok (.iload_n 1, 1) := by decide +kernel
theorem dX2_recordOf_42 : decode cX2_recordOf 42 = .ok (.isub, 1) := by decide +kernel
theorem dX2_recordOf_43 : decode cX2_recordOf 43 = .ok (.iload_n 2, 1) := by decide +kernel
theorem dX2_recordOf_44 : decode cX2_recordOf 44 = .ok (.invokestatic 143, 3) := by decide +kernel
theorem dX2_recordOf_47 : decode cX2_recordOf 47 = .ok (.invokevirtual 84, 3) := by decide +kernel
theorem dX2_recordOf_50 : decode cX2_recordOf 50 = .ok (.ireturn, 1) := by decide +kernel
set_option maxRecDepth 20000 in
theorem ggX2_numberOf_X5_at : GoodIn wsX2_numberOf wsX5_at := goodIn_r _ [14, 15, 57] (by decide +kernel) (by decide +kernel)
set_option maxRecDepth 20000 in
theorem gX2_numberOf_X5_at : GoodIn wsX2_numberOf (wsV RX2 84 RX5 yX5_at wsX5_at) := goodIn_app (goodIn_of _ (by decide +kernel)) ggX2_numberOf_X5_at
set_option maxRecDepth 20000 in
theorem ggX2_numberOf_X5_sum : GoodIn wsX2_numberOf wsX5_sum := goodIn_r _ [19, 15, 57] (by decide +kernel) (by decide +kernel)
set_option maxRecDepth 20000 in
theorem gX2_numberOf_X5_sum : GoodIn wsX2_numberOf (wsV RX2 179 RX5 yX5_sum wsX5_sum) := goodIn_app (goodIn_of _ (by decide +kernel)) ggX2_numberOf_X5_sum
set_option maxRecDepth 20000 in
theorem ggX2_numberOf_X2_suspectedNow : GoodIn wsX2_numberOf wsX2_suspectedNow := goodIn_r _ [24, 8, 9, 10, 11, 12, 13, 14, 15, 25, 26, 27, 28, 29, 30, 31, 32, 33, 34, 35, 36, 37, 38, 39, 40, 41, 42, 57, 49, 50, 51, 52, 53, 54, 55, 56] (by decide +kernel) (by decide +kernel)
set_option maxRecDepth 20000 in
theorem gX2_numberOf_X2_suspectedNow : GoodIn wsX2_numberOf (wsV RX2 186 RX2 yX2_suspectedNow wsX2_suspectedNow) := goodIn_app (goodIn_of _ (by decide +kernel)) ggX2_numberOf_X2_suspectedNow
theorem dX2_numberOf_0 : decode cX2_numberOf 0 = .ok (.iload_n 1, 1) := by decide +kernel
theorem dX2_numberOf_1 : decode cX2_numberOf 1 = .ok (.tableswitch 185 0 12 #[67, 72, 77, 82, 91, 99, 110, 121, 130, 154, 159, 167, 172], 67) := by decide +kernel
theorem dX2_numberOf_68 : decode cX2_numberOf 68 = .ok (.aload_n 0, 1) := by decide +kernel
theorem dX2_numberOf_69 : decode cX2_numberOf 69 = .ok (.getfield 62, 3) := by decide +kernel
theorem dX2_numberOf_72 : decode cX2_numberOf 72 = .ok (.ireturn, 1) := by decide +kernel
theorem dX2_numberOf_73 : decode cX2_numberOf 73 = .ok (.aload_n 0, 1) := by decide +kernel
theorem dX2_numberOf_74 : decode cX2_numberOf 74 = .ok (.getfield 65, 3) := by decide +kernel
theorem dX2_numberOf_77 : decode cX2_numberOf 77 = .ok (.ireturn, 1) := by decide +kernel
theorem dX2_numberOf_78 : decode cX2_numberOf 78 = .ok (.aload_n 0, 1) := by decide +kernel
theorem dX2_numberOf_79 : decode cX2_numberOf 79 = .ok (.getfield 68, 3) := by decide +kernel
theorem dX2_numberOf_82 : decode cX2_numberOf 82 = .ok (.ireturn, 1) := by decide +kernel
theorem dX2_numberOf_83 : decode cX2_numberOf 83 = .ok (.aload_n 0, 1) := by decide +kernel
theorem dX2_numberOf_84 : decode cX2_numberOf 84 = .ok (.getfield 34, 3) := by decide +kernel
theorem dX2_numberOf_87 : decode cX2_numberOf 87 = .ok (.iconst 0, 1) := by decide +kernel
theorem dX2_numberOf_88 : decode cX2_numberOf 88 = .ok (.invokevirtual 84, 3) := by decide +kernel
theorem dX2_numberOf_91 : decode cX2_numberOf 91 = .ok (.ireturn, 1) := by decide +kernel
theorem dX2_numberOf_92 : decode cX2_numberOf 92 = .ok (.aload_n 0, 1) := by decide +kernel
theorem dX2_numberOf_93 : decode cX2_numberOf 93 = .ok (.getfield 30, 3) := by decide +kernel
theorem dX2_numberOf_96 : decode cX2_numberOf 96 = .ok (.getfield 173, 3) := by decide +kernel
theorem dX2_numberOf_99 : decode cX2_numberOf 99 = .ok (.ireturn, 1) := by decide +kernel
theorem dX2_numberOf_100 : decode cX2_numberOf 100 = .ok (.aload_n 0, 1) := by decide +kernel
theorem dX2_numberOf_101 : decode cX2_numberOf 101 = .ok (.getfield 30, 3) := by decide +kernel
theorem dX2_numberOf_104 : decode cX2_numberOf 104 = .ok (.getfield 176, 3) := by decide +kernel
theorem dX2_numberOf_107 : decode cX2_numberOf 107 = .ok (.invokevirtual 179, 3) := by decide +kernel
theorem dX2_numberOf_110 : decode cX2_numberOf 110 = .ok (.ireturn, 1) := by decide +kernel
theorem dX2_numberOf_111 : decode cX2_numberOf 111 = .ok (.aload_n 0, 1) := by decide +kernel
theorem dX2_numberOf_112 : decode cX2_numberOf 112 = .ok (.getfield 30, 3) := by decide +kernel
theorem dX2_numberOf_115 : decode cX2_numberOf 115 = .ok (.getfield 183, 3) := by decide +kernel
theorem dX2_numberOf_118 : decode cX2_numberOf 118 = .ok (.invokevirtual 179, 3) := by decide +kernel
theorem dX2_numberOf_121 : decode cX2_numberOf 121 = .ok (.ireturn, 1) := by decide +kernel
theorem dX2_numberOf_122 : decode cX2_numberOf 122 = .ok (.aload_n 0, 1) := by decide +kernel
theorem dX2_numberOf_123 : decode cX2_numberOf 123 = .ok (.getfield 34, 3) := by decide +kernel
theorem dX2_numberOf_126 : decode cX2_numberOf 126 = .ok (.iconst 3, 1) := by decide +kernel
theorem dX2_numberOf_127 : decode cX2_numberOf 127 = .ok (.invokevirtual 84, 3) := by decide +kernel
theorem dX2_numberOf_130 : decode cX2_numberOf 130 = .ok (.ireturn, 1) := by decide +kernel
theorem dX2_numberOf_131 : decode cX2_numberOf 131 = .ok (.aload_n 0, 1) := by decide +kernel
theorem dX2_numberOf_132 : decode cX2_numberOf 132 = .ok (.getfield 40, 3) := by decide +kernel
theorem dX2_numberOf_135 : decode cX2_numberOf 135 = .ok (.bipush (-6), 2) := by decide +kernel
theorem dX2_numberOf_137 : decode cX2_numberOf 137 = .ok (.if_icmp .ne 8, 3) := by decide +kernel
theorem dX2_numberOf_140 : decode cX2_numberOf 140 = .ok (.bipush (-6), 2) := by decide +kernel
theorem dX2_numberOf_142 : decode cX2_numberOf 142 = .ok (.goto 12, 3) := by decide +kernel
theorem dX2_numberOf_145 : decode cX2_numberOf 145 = .ok (.aload_n 0, 1) := by decide +kernel
theorem dX2_numberOf_146 : decode cX2_numberOf 146 = .ok (.getfield 65, 3) := by decide +kernel
theorem dX2_numberOf_149 : decode cX2_numberOf 149 = .ok (.aload_n 0, 1) := by decide +kernel
theorem dX2_numberOf_150 : decode cX2_numberOf 150 = .ok (.getfield 71, 3) := by decide +kernel
theorem dX2_numberOf_153 : decode cX2_numberOf 153 = .ok (.isub, 1) := by decide +kernel
theorem dX2_numberOf_154 : decode cX2_numberOf 154 = .ok (.ireturn, 1) := by decide +kernel
theorem dX2_numberOf_155 : decode cX2_numberOf 155 = .ok (.aload_n 0, 1) := by decide +kernel
theorem dX2_numberOf_156 : decode cX2_numberOf 156 = .ok (.getfield 40, 3) := by decide +kernel
theorem dX2_numberOf_159 : decode cX2_numberOf 159 = .ok (.ireturn, 1) := by decide +kernel
theorem dX2_numberOf_160 : decode cX2_numberOf 160 = .ok (.aload_n 0, 1) := by decide +kernel
theorem dX2_numberOf_161 : decode cX2_numberOf 161 = .ok (.getfield 23, 3) := by decide +kernel
theorem dX2_numberOf_164 : decode cX2_numberOf 164 = .ok (.getfield 95, 3) := by decide +kernel
theorem dX2_numberOf_167 : decode cX2_numberOf 167 = .ok (.ireturn, 1) := by decide +kernel
theorem dX2_numberOf_168 : decode cX2_numberOf 168 = .ok (.aload_n 0, 1) := by decide +kernel
theorem dX2_numberOf_169 : decode cX2_numberOf 169 = .ok (.invokevirtual 186, 3) := by decide +kernel
theorem dX2_numberOf_172 : decode cX2_numberOf 172 = .ok (.ireturn, 1) := by decide +kernel
theorem dX2_numberOf_173 : decode cX2_numberOf 173 = .ok (.aload_n 0, 1) := by decide +kernel
theorem dX2_numberOf_174 : decode cX2_numberOf 174 = .ok (.getfield 23, 3) := by decide +kernel
theorem dX2_numberOf_177 : decode cX2_numberOf 177 = .ok (.getfield 95, 3) := by decide +kernel
theorem dX2_numberOf_180 : decode cX2_numberOf 180 = .ok (.aload_n 0, 1) := by decide +kernel
theorem dX2_numberOf_181 : decode cX2_numberOf 181 = .ok (.invokevirtual 186, 3) := by decide +kernel
theorem dX2_numberOf_184 : decode cX2_numberOf 184 = .ok (.iand, 1) := by decide +kernel
theorem dX2_numberOf_185 : decode cX2_numberOf 185 = .ok (.ireturn, 1) := by decide +kernel
theorem dX2_numberOf_186 : decode cX2_numberOf 186 = .ok (.iload_n 1, 1) := by decide +kernel
theorem dX2_numberOf_187 : decode cX2_numberOf 187 = .ok (.bipush 13, 2) := by decide +kernel
theorem dX2_numberOf_189 : decode cX2_numberOf 189 = .ok (.if_icmp .lt 23, 3) := by decide +kernel
theorem dX2_numberOf_192 : decode cX2_numberOf 192 = .ok (.iload_n 1, 1) := by decide +kernel
theorem dX2_numberOf_193 : decode cX2_numberOf 193 = .ok (.bipush 19, 2) := by decide +kernel
theorem dX2_numberOf_195 : decode cX2_numberOf 195 = .ok (.if_icmp .ge 17, 3) := by decide +kernel
theorem dX2_numberOf_198 : decode cX2_numberOf 198 = .ok (.aload_n 0, 1) := by decide +kernel
theorem dX2_numberOf_199 : decode cX2_numberOf 199 = .ok (.getfield 14, 3) := by decide +kernel
theorem dX2_numberOf_202 : decode cX2_numberOf 202 = .ok (.iload_n 1, 1) := by decide +kernel
theorem dX2_numberOf_203 : decode cX2_numberOf 203 = .ok (.bipush 13, 2) := by decide +kernel
theorem dX2_numberOf_205 : decode cX2_numberOf 205 = .ok (.isub, 1) := by decide +kernel
theorem dX2_numberOf_206 : decode cX2_numberOf 206 = .ok (.invokevirtual 84, 3) := by decide +kernel
theorem dX2_numberOf_209 : decode cX2_numberOf 209 = .ok (.goto 5, 3) := by decide +kernel
theorem dX2_numberOf_212 : decode cX2_numberOf 212 = .ok (.bipush (-2), 2) := by decide +kernel
theorem dX2_numberOf_214 : decode cX2_numberOf 214 = .ok (.ireturn, 1) := by decide +kernel
set_option maxRecDepth 20000 in
theorem ggX2_secondsUntil_X5_at : GoodIn wsX2_secondsUntil wsX5_at := goodIn_r _ [7, 8, 27] (by decide +kernel) (by decide +kernel)
set_option maxRecDepth 20000 in
theorem gX2_secondsUntil_X5_at : GoodIn wsX2_secondsUntil (wsV RX2 84 RX5 yX5_at wsX5_at) := goodIn_app (goodIn_of _ (by decide +kernel)) ggX2_secondsUntil_X5_at
set_option maxRecDepth 20000 in
theorem ggX2_secondsUntil_X7_afterSecond : GoodIn wsX2_secondsUntil wsX7_afterSecond := goodIn_r _ [11, 12, 13, 14, 15] (by decide +kernel) (by decide +kernel)
set_option maxRecDepth 20000 in
theorem gX2_secondsUntil_X7_afterSecond_n131 : GoodIn wsX2_secondsUntil (wsX7_afterSecond) := ggX2_secondsUntil_X7_afterSecond
theorem dX2_secondsUntil_0 : decode cX2_secondsUntil 0 = .ok (.iload_n 1, 1) := by decide +kernel
theorem dX2_secondsUntil_1 : decode cX2_secondsUntil 1 = .ok (.ifCond .lt 10, 3) := by decide +kernel
theorem dX2_secondsUntil_4 : decode cX2_secondsUntil 4 = .ok (.iload_n 1, 1) := by decide +kernel
theorem dX2_secondsUntil_5 : decode cX2_secondsUntil 5 = .ok (.sipush 9999, 3) := by decide +kernel
theorem dX2_secondsUntil_8 : decode cX2_secondsUntil 8 = .ok (.if_icmp .le 6, 3) := by decide +kernel
theorem dX2_secondsUntil_11 : decode cX2_secondsUntil 11 = .ok (.bipush (-2), 2) := by decide +kernel
theorem dX2_secondsUntil_13 : decode cX2_secondsUntil 13 = .ok (.ireturn, 1) := by decide +kernel
theorem dX2_secondsUntil_14 : decode cX2_secondsUntil 14 = .ok (.aload_n 0, 1) := by decide +kernel
theorem dX2_secondsUntil_15 : decode cX2_secondsUntil 15 = .ok (.getfield 62, 3) := by decide +kernel
theorem dX2_secondsUntil_18 : decode cX2_secondsUntil 18 = .ok (.istore_n 2, 1) := by decide +kernel
theorem dX2_secondsUntil_19 : decode cX2_secondsUntil 19 = .ok (.iconst 0, 1) := by decide +kernel
theorem dX2_secondsUntil_20 : decode cX2_secondsUntil 20 = .ok (.istore_n 3, 1) := by decide +kernel
theorem dX2_secondsUntil_21 : decode cX2_secondsUntil 21 = .ok (.iload_n 2, 1) := by decide +kernel
theorem dX2_secondsUntil_22 : decode cX2_secondsUntil 22 = .ok (.iload_n 1, 1) := by decide +kernel
theorem dX2_secondsUntil_23 : decode cX2_secondsUntil 23 = .ok (.if_icmp .le 29, 3) := by decide +kernel
theorem dX2_secondsUntil_26 : decode cX2_secondsUntil 26 = .ok (.iload_n 3, 1) := by decide +kernel
theorem dX2_secondsUntil_27 : decode cX2_secondsUntil 27 = .ok (.sipush 9999, 3) := by decide +kernel
theorem dX2_secondsUntil_30 : decode cX2_secondsUntil 30 = .ok (.if_icmp .ge 22, 3) := by decide +kernel
theorem dX2_secondsUntil_33 : decode cX2_secondsUntil 33 = .ok (.iload_n 2, 1) := by decide +kernel
theorem dX2_secondsUntil_34 : decode cX2_secondsUntil 34 = .ok (.aload_n 0, 1) := by decide +kernel
theorem dX2_secondsUntil_35 : decode cX2_secondsUntil 35 = .ok (.getfield 14, 3) := by decide +kernel
theorem dX2_secondsUntil_38 : decode cX2_secondsUntil 38 = .ok (.iconst 0, 1) := by decide +kernel
theorem dX2_secondsUntil_39 : decode cX2_secondsUntil 39 = .ok (.invokevirtual 84, 3) := by decide +kernel
theorem dX2_secondsUntil_42 : decode cX2_secondsUntil 42 = .ok (.invokestatic 131, 3) := by decide +kernel
theorem dX2_secondsUntil_45 : decode cX2_secondsUntil 45 = .ok (.istore_n 2, 1) := by decide +kernel
theorem dX2_secondsUntil_46 : decode cX2_secondsUntil 46 = .ok (.iinc 3 1, 3) := by decide +kernel
theorem dX2_secondsUntil_49 : decode cX2_secondsUntil 49 = .ok (.goto (-28), 3) := by decide +kernel
theorem dX2_secondsUntil_52 : decode cX2_secondsUntil 52 = .ok (.iload_n 3, 1) := by decide +kernel
theorem dX2_secondsUntil_53 : decode cX2_secondsUntil 53 = .ok (.ireturn, 1) := by decide +kernel
set_option maxRecDepth 20000 in
theorem ggX2_clapsUntilEncore_X7_isSeat : GoodIn wsX2_clapsUntilEncore wsX7_isSeat := goodIn_r _ [8] (by decide +kernel) (by decide +kernel)
set_option maxRecDepth 20000 in
theorem gX2_clapsUntilEncore_X7_isSeat_n88 : GoodIn wsX2_clapsUntilEncore (wsX7_isSeat) := ggX2_clapsUntilEncore_X7_isSeat
set_option maxRecDepth 20000 in
theorem ggX2_clapsUntilEncore_X5_at : GoodIn wsX2_clapsUntilEncore wsX5_at := goodIn_r _ [13, 14, 34] (by decide +kernel) (by decide +kernel)
set_option maxRecDepth 20000 in
theorem gX2_clapsUntilEncore_X5_at : GoodIn wsX2_clapsUntilEncore (wsV RX2 84 RX5 yX5_at wsX5_at) := goodIn_app (goodIn_of _ (by decide +kernel)) ggX2_clapsUntilEncore_X5_at
theorem dX2_clapsUntilEncore_0 : decode cX2_clapsUntilEncore 0 = .ok (.iload_n 1, 1) := by decide +kernel
theorem dX2_clapsUntilEncore_1 : decode cX2_clapsUntilEncore 1 = .ok (.invokestatic 88, 3) := by decide +kernel
theorem dX2_clapsUntilEncore_4 : decode cX2_clapsUntilEncore 4 = .ok (.ifCond .ne 5, 3) := by decide +kernel
theorem dX2_clapsUntilEncore_7 : decode cX2_clapsUntilEncore 7 = .ok (.iconst (-1), 1) := by decide +kernel
theorem dX2_clapsUntilEncore_8 : decode cX2_clapsUntilEncore 8 = .ok (.ireturn, 1) := by decide +kernel
theorem dX2_clapsUntilEncore_9 : decode cX2_clapsUntilEncore 9 = .ok (.aload_n 0, 1) := by decide +kernel
theorem dX2_clapsUntilEncore_10 : decode cX2_clapsUntilEncore 10 = .ok (.getfield 40, 3) := by decide +kernel
theorem dX2_clapsUntilEncore_13 : decode cX2_clapsUntilEncore 13 = .ok (.bipush (-6), 2) := by decide +kernel
theorem dX2_clapsUntilEncore_15 : decode cX2_clapsUntilEncore 15 = .ok (.if_icmp .eq 10, 3) := by decide +kernel
theorem dX2_clapsUntilEncore_18 : decode cX2_clapsUntilEncore 18 = .ok (.aload_n 0, 1) := by decide +kernel
theorem dX2_clapsUntilEncore_19 : decode cX2_clapsUntilEncore 19 = .ok (.getfield 74, 3) := by decide +kernel
theorem dX2_clapsUntilEncore_22 : decode cX2_clapsUntilEncore 22 = .ok (.ifCond .eq 6, 3) := by decide +kernel
theorem dX2_clapsUntilEncore_25 : decode cX2_clapsUntilEncore 25 = .ok (.bipush (-5), 2) := by decide +kernel
theorem dX2_clapsUntilEncore_27 : decode cX2_clapsUntilEncore 27 = .ok (.ireturn, 1) := by decide +kernel
theorem dX2_clapsUntilEncore_28 : decode cX2_clapsUntilEncore 28 = .ok (.bipush 10, 2) := by decide +kernel
theorem dX2_clapsUntilEncore_30 : decode cX2_clapsUntilEncore 30 = .ok (.aload_n 0, 1) := by decide +kernel
theorem dX2_clapsUntilEncore_31 : decode cX2_clapsUntilEncore 31 = .ok (.getfield 23, 3) := by decide +kernel
theorem dX2_clapsUntilEncore_34 : decode cX2_clapsUntilEncore 34 = .ok (.getfield 92, 3) := by decide +kernel
theorem dX2_clapsUntilEncore_37 : decode cX2_clapsUntilEncore 37 = .ok (.iload_n 1, 1) := by decide +kernel
theorem dX2_clapsUntilEncore_38 : decode cX2_clapsUntilEncore 38 = .ok (.invokevirtual 84, 3) := by decide +kernel
theorem dX2_clapsUntilEncore_41 : decode cX2_clapsUntilEncore 41 = .ok (.imul, 1) := by decide +kernel
theorem dX2_clapsUntilEncore_42 : decode cX2_clapsUntilEncore 42 = .ok (.istore_n 2, 1) := by decide +kernel
theorem dX2_clapsUntilEncore_43 : decode cX2_clapsUntilEncore 43 = .ok (.aload_n 0, 1) := by decide +kernel
theorem dX2_clapsUntilEncore_44 : decode cX2_clapsUntilEncore 44 = .ok (.getfield 14, 3) := by decide +kernel
theorem dX2_clapsUntilEncore_47 : decode cX2_clapsUntilEncore 47 = .ok (.iconst 1, 1) := by decide +kernel
theorem dX2_clapsUntilEncore_48 : decode cX2_clapsUntilEncore 48 = .ok (.invokevirtual 84, 3) := by decide +kernel
theorem dX2_clapsUntilEncore_51 : decode cX2_clapsUntilEncore 51 = .ok (.aload_n 0, 1) := by decide +kernel
theorem dX2_clapsUntilEncore_52 : decode cX2_clapsUntilEncore 52 = .ok (.getfield 62, 3) := by decide +kernel
theorem dX2_clapsUntilEncore_55 : decode cX2_clapsUntilEncore 55 = .ok (.isub, 1) := by decide +kernel
theorem dX2_clapsUntilEncore_56 : decode cX2_clapsUntilEncore 56 = .ok (.istore_n 3, 1) := by decide +kernel
theorem dX2_clapsUntilEncore_57 : decode cX2_clapsUntilEncore 57 = .ok (.iload_n 2, 1) := by decide +kernel
theorem dX2_clapsUntilEncore_58 : decode cX2_clapsUntilEncore 58 = .ok (.ifCond .le 7, 3) := by decide +kernel
theorem dX2_clapsUntilEncore_61 : decode cX2_clapsUntilEncore 61 = .ok (.iload_n 3, 1) := by decide +kernel
theorem dX2_clapsUntilEncore_62 : decode cX2_clapsUntilEncore 62 = .ok (.ifCond .gt 7, 3) := by decide +kernel
theorem dX2_clapsUntilEncore_65 : decode cX2_clapsUntilEncore 65 = .ok (.iconst 1, 1) := by decide +kernel
theorem dX2_clapsUntilEncore_66 : decode cX2_clapsUntilEncore 66 = .ok (.goto 10, 3) := by decide +kernel
theorem dX2_clapsUntilEncore_69 : decode cX2_clapsUntilEncore 69 = .ok (.iload_n 3, 1) := by decide +kernel
theorem dX2_clapsUntilEncore_70 : decode cX2_clapsUntilEncore 70 = .ok (.iload_n 2, 1) := by decide +kernel
theorem dX2_clapsUntilEncore_71 : decode cX2_clapsUntilEncore 71 = .ok (.iadd, 1) := by decide +kernel
theorem dX2_clapsUntilEncore_72 : decode cX2_clapsUntilEncore 72 = .ok (.iconst 1, 1) := by decide +kernel
theorem dX2_clapsUntilEncore_73 : decode cX2_clapsUntilEncore 73 = .ok (.isub, 1) := by decide +kernel
theorem dX2_clapsUntilEncore_74 : decode cX2_clapsUntilEncore 74 = .ok (.iload_n 2, 1) := by decide +kernel
theorem dX2_clapsUntilEncore_75 : decode cX2_clapsUntilEncore 75 = .ok (.idiv, 1) := by decide +kernel
theorem dX2_clapsUntilEncore_76 : decode cX2_clapsUntilEncore 76 = .ok (.ireturn, 1) := by decide +kernel
set_option maxRecDepth 20000 in
theorem ggX2_secondsUntilLapse_X7_isPerformer : GoodIn wsX2_secondsUntilLapse wsX7_isPerformer := goodIn_r _ [10] (by decide +kernel) (by decide +kernel)
set_option maxRecDepth 20000 in
theorem gX2_secondsUntilLapse_X7_isPerformer_n98 : GoodIn wsX2_secondsUntilLapse (wsX7_isPerformer) := ggX2_secondsUntilLapse_X7_isPerformer
set_option maxRecDepth 20000 in
theorem ggX2_secondsUntilLapse_X0_earliestOf : GoodIn wsX2_secondsUntilLapse wsX0_earliestOf := goodIn_r _ [15, 16, 17, 18, 19, 20, 21, 22, 23, 36, 37, 38, 39, 40, 41, 42] (by decide +kernel) (by decide +kernel)
set_option maxRecDepth 20000 in
theorem gX2_secondsUntilLapse_X0_earliestOf : GoodIn wsX2_secondsUntilLapse (wsV RX2 189 RX0 yX0_earliestOf wsX0_earliestOf) := goodIn_app (goodIn_of _ (by decide +kernel)) ggX2_secondsUntilLapse_X0_earliestOf
set_option maxRecDepth 20000 in
theorem ggX2_secondsUntilLapse_X5_at : GoodIn wsX2_secondsUntilLapse wsX5_at := goodIn_r _ [22, 23, 42] (by decide +kernel) (by decide +kernel)
set_option maxRecDepth 20000 in
theorem gX2_secondsUntilLapse_X5_at : GoodIn wsX2_secondsUntilLapse (wsV RX2 84 RX5 yX5_at wsX5_at) := goodIn_app (goodIn_of _ (by decide +kernel)) ggX2_secondsUntilLapse_X5_at
theorem dX2_secondsUntilLapse_0 : decode cX2_secondsUntilLapse 0 = .ok (.iload_n 1, 1) := by decide +kernel
theorem dX2_secondsUntilLapse_1 : decode cX2_secondsUntilLapse 1 = .ok (.invokestatic 98, 3) := by decide +kernel
theorem dX2_secondsUntilLapse_4 : decode cX2_secondsUntilLapse 4 = .ok (.ifCond .ne 5, 3) := by decide +kernel
theorem dX2_secondsUntilLapse_7 : decode cX2_secondsUntilLapse 7 = .ok (.iconst (-1), 1) := by decide +kernel
theorem dX2_secondsUntilLapse_8 : decode cX2_secondsUntilLapse 8 = .ok (.ireturn, 1) := by decide +kernel
theorem dX2_secondsUntilLapse_9 : decode cX2_secondsUntilLapse 9 = .ok (.aload_n 0, 1) := by decide +kernel
theorem dX2_secondsUntilLapse_10 : decode cX2_secondsUntilLapse 10 = .ok (.getfield 30, 3) := by decide +kernel
theorem dX2_secondsUntilLapse_13 : decode cX2_secondsUntilLapse 13 = .ok (.iload_n 1, 1) := by decide +kernel
theorem dX2_secondsUntilLapse_14 : decode cX2_secondsUntilLapse 14 = .ok (.invokevirtual 189, 3) := by decide +kernel
theorem dX2_secondsUntilLapse_17 : decode cX2_secondsUntilLapse 17 = .ok (.istore_n 2, 1) := by decide +kernel
theorem dX2_secondsUntilLapse_18 : decode cX2_secondsUntilLapse 18 = .ok (.iload_n 2, 1) := by decide +kernel
theorem dX2_secondsUntilLapse_19 : decode cX2_secondsUntilLapse 19 = .ok (.bipush (-6), 2) := by decide +kernel
theorem dX2_secondsUntilLapse_21 : decode cX2_secondsUntilLapse 21 = .ok (.if_icmp .ne 6, 3) := by decide +kernel
theorem dX2_secondsUntilLapse_24 : decode cX2_secondsUntilLapse 24 = .ok (.bipush (-6), 2) := by decide +kernel
theorem dX2_secondsUntilLapse_26 : decode cX2_secondsUntilLapse 26 = .ok (.ireturn, 1) := by decide +kernel
theorem dX2_secondsUntilLapse_27 : decode cX2_secondsUntilLapse 27 = .ok (.aload_n 0, 1) := by decide +kernel
theorem dX2_secondsUntilLapse_28 : decode cX2_secondsUntilLapse 28 = .ok (.getfield 65, 3) := by decide +kernel
theorem dX2_secondsUntilLapse_31 : decode cX2_secondsUntilLapse 31 = .ok (.aload_n 0, 1) := by decide +kernel
theorem dX2_secondsUntilLapse_32 : decode cX2_secondsUntilLapse 32 = .ok (.getfield 30, 3) := by decide +kernel
theorem dX2_secondsUntilLapse_35 : decode cX2_secondsUntilLapse 35 = .ok (.getfield 192, 3) := by decide +kernel
theorem dX2_secondsUntilLapse_38 : decode cX2_secondsUntilLapse 38 = .ok (.iload_n 2, 1) := by decide +kernel
theorem dX2_secondsUntilLapse_39 : decode cX2_secondsUntilLapse 39 = .ok (.invokevirtual 84, 3) := by decide +kernel
theorem dX2_secondsUntilLapse_42 : decode cX2_secondsUntilLapse 42 = .ok (.isub, 1) := by decide +kernel
theorem dX2_secondsUntilLapse_43 : decode cX2_secondsUntilLapse 43 = .ok (.istore_n 3, 1) := by decide +kernel
theorem dX2_secondsUntilLapse_44 : decode cX2_secondsUntilLapse 44 = .ok (.aload_n 0, 1) := by decide +kernel
theorem dX2_secondsUntilLapse_45 : decode cX2_secondsUntilLapse 45 = .ok (.getfield 14, 3) := by decide +kernel
theorem dX2_secondsUntilLapse_48 : decode cX2_secondsUntilLapse 48 = .ok (.iconst 2, 1) := by decide +kernel
theorem dX2_secondsUntilLapse_49 : decode cX2_secondsUntilLapse 49 = .ok (.invokevirtual 84, 3) := by decide +kernel
theorem dX2_secondsUntilLapse_52 : decode cX2_secondsUntilLapse 52 = .ok (.iload_n 3, 1) := by decide +kernel
theorem dX2_secondsUntilLapse_53 : decode cX2_secondsUntilLapse 53 = .ok (.isub, 1) := by decide +kernel
theorem dX2_secondsUntilLapse_54 : decode cX2_secondsUntilLapse 54 = .ok (.iconst 1, 1) := by decide +kernel
theorem dX2_secondsUntilLapse_55 : decode cX2_secondsUntilLapse 55 = .ok (.invokestatic 195, 3) := by decide +kernel
theorem dX2_secondsUntilLapse_58 : decode cX2_secondsUntilLapse 58 = .ok (.ireturn, 1) := by decide +kernel
set_option maxRecDepth 20000 in
theorem ggX2_curtainsLeft_X5_at : GoodIn wsX2_curtainsLeft wsX5_at := goodIn_r _ [7, 8, 20] (by decide +kernel) (by decide +kernel)
set_option maxRecDepth 20000 in
theorem gX2_curtainsLeft_X5_at : GoodIn wsX2_curtainsLeft (wsV RX2 84 RX5 yX5_at wsX5_at) := goodIn_app (goodIn_of _ (by decide +kernel)) ggX2_curtainsLeft_X5_at
theorem dX2_curtainsLeft_0 : decode cX2_curtainsLeft 0 = .ok (.aload_n 0, 1) := by decide +kernel
theorem dX2_curtainsLeft_1 : decode cX2_curtainsLeft 1 = .ok (.getfield 62, 3) := by decide +kernel
theorem dX2_curtainsLeft_4 : decode cX2_curtainsLeft 4 = .ok (.istore_n 1, 1) := by decide +kernel
theorem dX2_curtainsLeft_5 : decode cX2_curtainsLeft 5 = .ok (.iconst 0, 1) := by decide +kernel
theorem dX2_curtainsLeft_6 : decode cX2_curtainsLeft 6 = .ok (.istore_n 2, 1) := by decide +kernel
theorem dX2_curtainsLeft_7 : decode cX2_curtainsLeft 7 = .ok (.iload_n 1, 1) := by decide +kernel
theorem dX2_curtainsLeft_8 : decode cX2_curtainsLeft 8 = .ok (.ifCond .le 25, 3) := by decide +kernel
theorem dX2_curtainsLeft_11 : decode cX2_curtainsLeft 11 = .ok (.iload_n 1, 1) := by decide +kernel
theorem dX2_curtainsLeft_12 : decode cX2_curtainsLeft 12 = .ok (.aload_n 0, 1) := by decide +kernel
theorem dX2_curtainsLeft_13 : decode cX2_curtainsLeft 13 = .ok (.getfield 14, 3) := by decide +kernel
theorem dX2_curtainsLeft_16 : decode cX2_curtainsLeft 16 = .ok (.iconst 5, 1) := by decide +kernel
theorem dX2_curtainsLeft_17 : decode cX2_curtainsLeft 17 = .ok (.invokevirtual 84, 3) := by decide +kernel
theorem dX2_curtainsLeft_20 : decode cX2_curtainsLeft 20 = .ok (.if_icmp .lt 13, 3) := by decide +kernel
theorem dX2_curtainsLeft_23 : decode cX2_curtainsLeft 23 = .ok (.iload_n 1, 1) := by decide +kernel
theorem dX2_curtainsLeft_24 : decode cX2_curtainsLeft 24 = .ok (.iconst 2, 1) := by decide +kernel
theorem dX2_curtainsLeft_25 : decode cX2_curtainsLeft 25 = .ok (.idiv, 1) := by decide +kernel
theorem dX2_curtainsLeft_26 : decode cX2_curtainsLeft 26 = .ok (.istore_n 1, 1) := by decide +kernel
theorem dX2_curtainsLeft_27 : decode cX2_curtainsLeft 27 = .ok (.iinc 2 1, 3) := by decide +kernel
theorem dX2_curtainsLeft_30 : decode cX2_curtainsLeft 30 = .ok (.goto (-23), 3) := by decide +kernel
theorem dX2_curtainsLeft_33 : decode cX2_curtainsLeft 33 = .ok (.iload_n 2, 1) := by decide +kernel
theorem dX2_curtainsLeft_34 : decode cX2_curtainsLeft 34 = .ok (.ireturn, 1) := by decide +kernel
theorem dX3_init_0 : decode cX3_init 0 = .ok (.aload_n 0, 1) := by decide +kernel
theorem dX3_init_1 : decode cX3_init 1 = .ok (.invokespecial 3, 3) := by decide +kernel
theorem dX3_init_4 : decode cX3_init 4 = .ok (.aload_n 0, 1) := by decide +kernel
theorem dX3_init_5 : decode cX3_init 5 = .ok (.aload_n 1, 1) := by decide +kernel
theorem dX3_init_6 : decode cX3_init 6 = .ok (.putfield 9, 3) := by decide +kernel
theorem dX3_init_9 : decode cX3_init 9 = .ok (.return_, 1) := by decide +kernel
theorem dX4_init_0 : decode cX4_init 0 = .ok (.aload_n 0, 1) := by decide +kernel
theorem dX4_init_1 : decode cX4_init 1 = .ok (.invokespecial 3, 3) := by decide +kernel
theorem dX4_init_4 : decode cX4_init 4 = .ok (.aload_n 0, 1) := by decide +kernel
theorem dX4_init_5 : decode cX4_init 5 = .ok (.bipush 80, 2) := by decide +kernel
theorem dX4_init_7 : decode cX4_init 7 = .ok (.newarray .int, 2) := by decide +kernel
theorem dX4_init_9 : decode cX4_init 9 = .ok (.putfield 9, 3) := by decide +kernel
theorem dX4_init_12 : decode cX4_init 12 = .ok (.return_, 1) := by decide +kernel
theorem dX4_length_0 : decode cX4_length 0 = .ok (.aload_n 0, 1) := by decide +kernel
theorem dX4_length_1 : decode cX4_length 1 = .ok (.getfield 15, 3) := by decide +kernel
theorem dX4_length_4 : decode cX4_length 4 = .ok (.ireturn, 1) := by decide +kernel
theorem dX5_init_0 : decode cX5_init 0 = .ok (.aload_n 0, 1) := by decide +kernel
theorem dX5_init_1 : decode cX5_init 1 = .ok (.invokespecial 1, 3) := by decide +kernel
theorem dX5_init_4 : decode cX5_init 4 = .ok (.aload_n 0, 1) := by decide +kernel
theorem dX5_init_5 : decode cX5_init 5 = .ok (.iload_n 1, 1) := by decide +kernel
theorem dX5_init_6 : decode cX5_init 6 = .ok (.iconst 0, 1) := by decide +kernel
theorem dX5_init_7 : decode cX5_init 7 = .ok (.invokestatic 7, 3) := by decide +kernel
theorem dX5_init_10 : decode cX5_init 10 = .ok (.newarray .int, 2) := by decide +kernel
theorem dX5_init_12 : decode cX5_init 12 = .ok (.putfield 13, 3) := by decide +kernel
theorem dX5_init_15 : decode cX5_init 15 = .ok (.return_, 1) := by decide +kernel
theorem dX5_at_0 : decode cX5_at 0 = .ok (.iload_n 1, 1) := by decide +kernel
theorem dX5_at_1 : decode cX5_at 1 = .ok (.ifCond .lt 21, 3) := by decide +kernel
theorem dX5_at_4 : decode cX5_at 4 = .ok (.iload_n 1, 1) := by decide +kernel
theorem dX5_at_5 : decode cX5_at 5 = .ok (.aload_n 0, 1) := by decide +kernel
theorem dX5_at_6 : decode cX5_at 6 = .ok (.getfield 13, 3) := by decide +kernel
theorem dX5_at_9 : decode cX5_at 9 = .ok (.arraylength, 1) := by decide +kernel
theorem dX5_at_10 : decode cX5_at 10 = .ok (.if_icmp .ge 12, 3) := by decide +kernel
theorem dX5_at_13 : decode cX5_at 13 = .ok (.aload_n 0, 1) := by decide +kernel
theorem dX5_at_14 : decode cX5_at 14 = .ok (.getfield 13, 3) := by decide +kernel
theorem dX5_at_17 : decode cX5_at 17 = .ok (.iload_n 1, 1) := by decide +kernel
theorem dX5_at_18 : decode cX5_at 18 = .ok (.iaload, 1) := by decide +kernel
theorem dX5_at_19 : decode cX5_at 19 = .ok (.goto 4, 3) := by decide +kernel
theorem dX5_at_22 : decode cX5_at 22 = .ok (.iconst 0, 1) := by decide +kernel
theorem dX5_at_23 : decode cX5_at 23 = .ok (.ireturn, 1) := by decide +kernel
theorem dX5_store_0 : decode cX5_store 0 = .ok (.iload_n 1, 1) := by decide +kernel
theorem dX5_store_1 : decode cX5_store 1 = .ok (.ifCond .lt 19, 3) := by decide +kernel
theorem dX5_store_4 : decode cX5_store 4 = .ok (.iload_n 1, 1) := by decide +kernel
theorem dX5_store_5 : decode cX5_store 5 = .ok (.aload_n 0, 1) := by decide +kernel
theorem dX5_store_6 : decode cX5_store 6 = .ok (.getfield 13, 3) := by decide +kernel
theorem dX5_store_9 : decode cX5_store 9 = .ok (.arraylength, 1) := by decide +kernel
theorem dX5_store_10 : decode cX5_store 10 = .ok (.if_icmp .ge 10, 3) := by decide +kernel
theorem dX5_store_13 : decode cX5_store 13 = .ok (.aload_n 0, 1) := by decide +kernel
theorem dX5_store_14 : decode cX5_store 14 = .ok (.getfield 13, 3) := by decide +kernel
theorem dX5_store_17 : decode cX5_store 17 = .ok (.iload_n 1, 1) := by decide +kernel
theorem dX5_store_18 : decode cX5_store 18 = .ok (.iload_n 2, 1) := by decide +kernel
theorem dX5_store_19 : decode cX5_store 19 = .ok (.iastore, 1) := by decide +kernel
theorem dX5_store_20 : decode cX5_store 20 = .ok (.return_, 1) := by decide +kernel
theorem dX5_add_0 : decode cX5_add 0 = .ok (.iload_n 1, 1) := by decide +kernel
theorem dX5_add_1 : decode cX5_add 1 = .ok (.ifCond .lt 22, 3) := by decide +kernel
theorem dX5_add_4 : decode cX5_add 4 = .ok (.iload_n 1, 1) := by decide +kernel
theorem dX5_add_5 : decode cX5_add 5 = .ok (.aload_n 0, 1) := by decide +kernel
theorem dX5_add_6 : decode cX5_add 6 = .ok (.getfield 13, 3) := by decide +kernel
theorem dX5_add_9 : decode cX5_add 9 = .ok (.arraylength, 1) := by decide +kernel
theorem dX5_add_10 : decode cX5_add 10 = .ok (.if_icmp .ge 13, 3) := by decide +kernel
theorem dX5_add_13 : decode cX5_add 13 = .ok (.aload_n 0, 1) := by decide +kernel
theorem dX5_add_14 : decode cX5_add 14 = .ok (.getfield 13, 3) := by decide +kernel
theorem dX5_add_17 : decode cX5_add 17 = .ok (.iload_n 1, 1) := by decide +kernel
theorem dX5_add_18 : decode cX5_add 18 = .ok (.dup2, 1) := by decide +kernel
theorem dX5_add_19 : decode cX5_add 19 = .ok (.iaload, 1) := by decide +kernel
theorem dX5_add_20 : decode cX5_add 20 = .ok (.iload_n 2, 1) := by decide +kernel
theorem dX5_add_21 : decode cX5_add 21 = .ok (.iadd, 1) := by decide +kernel
theorem dX5_add_22 : decode cX5_add 22 = .ok (.iastore, 1) := by decide +kernel
theorem dX5_add_23 : decode cX5_add 23 = .ok (.return_, 1) := by decide +kernel
theorem dX5_fill_0 : decode cX5_fill 0 = .ok (.iconst 0, 1) := by decide +kernel
theorem dX5_fill_1 : decode cX5_fill 1 = .ok (.istore_n 2, 1) := by decide +kernel
theorem dX5_fill_2 : decode cX5_fill 2 = .ok (.iload_n 2, 1) := by decide +kernel
theorem dX5_fill_3 : decode cX5_fill 3 = .ok (.aload_n 0, 1) := by decide +kernel
theorem dX5_fill_4 : decode cX5_fill 4 = .ok (.getfield 13, 3) := by decide +kernel
theorem dX5_fill_7 : decode cX5_fill 7 = .ok (.arraylength, 1) := by decide +kernel
theorem dX5_fill_8 : decode cX5_fill 8 = .ok (.if_icmp .ge 16, 3) := by decide +kernel
theorem dX5_fill_11 : decode cX5_fill 11 = .ok (.aload_n 0, 1) := by decide +kernel
theorem dX5_fill_12 : decode cX5_fill 12 = .ok (.getfield 13, 3) := by decide +kernel
theorem dX5_fill_15 : decode cX5_fill 15 = .ok (.iload_n 2, 1) := by decide +kernel
theorem dX5_fill_16 : decode cX5_fill 16 = .ok (.iload_n 1, 1) := by decide +kernel
theorem dX5_fill_17 : decode cX5_fill 17 = .ok (.iastore, 1) := by decide +kernel
theorem dX5_fill_18 : decode cX5_fill 18 = .ok (.iinc 2 1, 3) := by decide +kernel
theorem dX5_fill_21 : decode cX5_fill 21 = .ok (.goto (-19), 3) := by decide +kernel
theorem dX5_fill_24 : decode cX5_fill 24 = .ok (.return_, 1) := by decide +kernel
theorem dX5_sum_0 : decode cX5_sum 0 = .ok (.iconst 0, 1) := by decide +kernel
theorem dX5_sum_1 : decode cX5_sum 1 = .ok (.istore_n 1, 1) := by decide +kernel
theorem dX5_sum_2 : decode cX5_sum 2 = .ok (.iconst 0, 1) := by decide +kernel
theorem dX5_sum_3 : decode cX5_sum 3 = .ok (.istore_n 2, 1) := by decide +kernel
theorem dX5_sum_4 : decode cX5_sum 4 = .ok (.iload_n 2, 1) := by decide +kernel
theorem dX5_sum_5 : decode cX5_sum 5 = .ok (.aload_n 0, 1) := by decide +kernel
theorem dX5_sum_6 : decode cX5_sum 6 = .ok (.getfield 13, 3) := by decide +kernel
theorem dX5_sum_9 : decode cX5_sum 9 = .ok (.arraylength, 1) := by decide +kernel
theorem dX5_sum_10 : decode cX5_sum 10 = .ok (.if_icmp .ge 18, 3) := by decide +kernel
theorem dX5_sum_13 : decode cX5_sum 13 = .ok (.iload_n 1, 1) := by decide +kernel
theorem dX5_sum_14 : decode cX5_sum 14 = .ok (.aload_n 0, 1) := by decide +kernel
theorem dX5_sum_15 : decode cX5_sum 15 = .ok (.getfield 13, 3) := by decide +kernel
theorem dX5_sum_18 : decode cX5_sum 18 = .ok (.iload_n 2, 1) := by decide +kernel
theorem dX5_sum_19 : decode cX5_sum 19 = .ok (.iaload, 1) := by decide +kernel
theorem dX5_sum_20 : decode cX5_sum 20 = .ok (.iadd, 1) := by decide +kernel
theorem dX5_sum_21 : decode cX5_sum 21 = .ok (.istore_n 1, 1) := by decide +kernel
theorem dX5_sum_22 : decode cX5_sum 22 = .ok (.iinc 2 1, 3) := by decide +kernel
theorem dX5_sum_25 : decode cX5_sum 25 = .ok (.goto (-21), 3) := by decide +kernel
theorem dX5_sum_28 : decode cX5_sum 28 = .ok (.iload_n 1, 1) := by decide +kernel
theorem dX5_sum_29 : decode cX5_sum 29 = .ok (.ireturn, 1) := by decide +kernel
theorem dX5_copyFrom_0 : decode cX5_copyFrom 0 = .ok (.aload_n 1, 1) := by decide +kernel
theorem dX5_copyFrom_1 : decode cX5_copyFrom 1 = .ok (.getfield 13, 3) := by decide +kernel
theorem dX5_copyFrom_4 : decode cX5_copyFrom 4 = .ok (.iconst 0, 1) := by decide +kernel
theorem dX5_copyFrom_5 : decode cX5_copyFrom 5 = .ok (.aload_n 0, 1) := by decide +kernel
theorem dX5_copyFrom_6 : decode cX5_copyFrom 6 = .ok (.getfield 13, 3) := by decide +kernel
theorem dX5_copyFrom_9 : decode cX5_copyFrom 9 = .ok (.iconst 0, 1) := by decide +kernel
theorem dX5_copyFrom_10 : decode cX5_copyFrom 10 = .ok (.aload_n 0, 1) := by decide +kernel
theorem dX5_copyFrom_11 : decode cX5_copyFrom 11 = .ok (.getfield 13, 3) := by decide +kernel
theorem dX5_copyFrom_14 : decode cX5_copyFrom 14 = .ok (.arraylength, 1) := by decide +kernel
theorem dX5_copyFrom_15 : decode cX5_copyFrom 15 = .ok (.aload_n 1, 1) := by decide +kernel
theorem dX5_copyFrom_16 : decode cX5_copyFrom 16 = .ok (.getfield 13, 3) := by decide +kernel
theorem dX5_copyFrom_19 : decode cX5_copyFrom 19 = .ok (.arraylength, 1) := by decide +kernel
theorem dX5_copyFrom_20 : decode cX5_copyFrom 20 = .ok (.invokestatic 19, 3) := by decide +kernel
theorem dX5_copyFrom_23 : decode cX5_copyFrom 23 = .ok (.invokestatic 22, 3) := by decide +kernel
theorem dX5_copyFrom_26 : decode cX5_copyFrom 26 = .ok (.return_, 1) := by decide +kernel
set_option maxRecDepth 20000 in
theorem ggX6_init_X5_init : GoodIn wsX6_init wsX5_init := goodIn_r _ [14, 15, 2, 3, 16, 17, 18, 19, 20, 21, 26] (by decide +kernel) (by decide +kernel)
set_option maxRecDepth 20000 in
theorem gX6_init_X5_init : GoodIn wsX6_init (wsX5_init) := ggX6_init_X5_init
set_option maxRecDepth 20000 in
theorem ggX6_init_X5_fill : GoodIn wsX6_init wsX5_fill := goodIn_r _ [25, 21, 26] (by decide +kernel) (by decide +kernel)
set_option maxRecDepth 20000 in
theorem gX6_init_X5_fill : GoodIn wsX6_init (wsV RX6 32 RX5 yX5_fill wsX5_fill) := goodIn_app (goodIn_of _ (by decide +kernel)) ggX6_init_X5_fill
theorem dX6_init_0 : decode cX6_init 0 = .ok (.aload_n 0, 1) := by decide +kernel
theorem dX6_init_1 : decode cX6_init 1 = .ok (.invokespecial 3, 3) := by decide +kernel
theorem dX6_init_4 : decode cX6_init 4 = .ok (.aload_n 0, 1) := by decide +kernel
theorem dX6_init_5 : decode cX6_init 5 = .ok (.new 9, 3) := by decide +kernel
theorem dX6_init_8 : decode cX6_init 8 = .ok (.dup, 1) := by decide +kernel
theorem dX6_init_9 : decode cX6_init 9 = .ok (.bipush 30, 2) := by decide +kernel
theorem dX6_init_11 : decode cX6_init 11 = .ok (.invokespecial 11, 3) := by decide +kernel
theorem dX6_init_14 : decode cX6_init 14 = .ok (.putfield 14, 3) := by decide +kernel
theorem dX6_init_17 : decode cX6_init 17 = .ok (.aload_n 0, 1) := by decide +kernel
theorem dX6_init_18 : decode cX6_init 18 = .ok (.new 9, 3) := by decide +kernel
theorem dX6_init_21 : decode cX6_init 21 = .ok (.dup, 1) := by decide +kernel
theorem dX6_init_22 : decode cX6_init 22 = .ok (.bipush 30, 2) := by decide +kernel
theorem dX6_init_24 : decode cX6_init 24 = .ok (.invokespecial 11, 3) := by decide +kernel
theorem dX6_init_27 : decode cX6_init 27 = .ok (.putfield 20, 3) := by decide +kernel
theorem dX6_init_30 : decode cX6_init 30 = .ok (.aload_n 0, 1) := by decide +kernel
theorem dX6_init_31 : decode cX6_init 31 = .ok (.new 9, 3) := by decide +kernel
theorem dX6_init_34 : decode cX6_init 34 = .ok (.dup, 1) := by decide +kernel
theorem dX6_init_35 : decode cX6_init 35 = .ok (.bipush 30, 2) := by decide +kernel
theorem dX6_init_37 : decode cX6_init 37 = .ok (.invokespecial 11, 3) := by decide +kernel
theorem dX6_init_40 : decode cX6_init 40 = .ok (.putfield 23, 3) := by decide +kernel
theorem dX6_init_43 : decode cX6_init 43 = .ok (.aload_n 0, 1) := by decide +kernel
theorem dX6_init_44 : decode cX6_init 44 = .ok (.new 9, 3) := by decide +kernel
theorem dX6_init_47 : decode cX6_init 47 = .ok (.dup, 1) := by decide +kernel
theorem dX6_init_48 : decode cX6_init 48 = .ok (.bipush 30, 2) := by decide +kernel
theorem dX6_init_50 : decode cX6_init 50 = .ok (.invokespecial 11, 3) := by decide +kernel
theorem dX6_init_53 : decode cX6_init 53 = .ok (.putfield 26, 3) := by decide +kernel
theorem dX6_init_56 : decode cX6_init 56 = .ok (.aload_n 0, 1) := by decide +kernel
theorem dX6_init_57 : decode cX6_init 57 = .ok (.new 9, 3) := by decide +kernel
theorem dX6_init_60 : decode cX6_init 60 = .ok (.dup, 1) := by decide +kernel
theorem dX6_init_61 : decode cX6_init 61 = .ok (.bipush 30, 2) := by decide +kernel
theorem dX6_init_63 : decode cX6_init 63 = .ok (.invokespecial 11, 3) := by decide +kernel
theorem dX6_init_66 : decode cX6_init 66 = .ok (.putfield 29, 3) := by decide +kernel
theorem dX6_init_69 : decode cX6_init 69 = .ok (.aload_n 0, 1) := by decide +kernel
theorem dX6_init_70 : decode cX6_init 70 = .ok (.getfield 14, 3) := by decide +kernel
theorem dX6_init_73 : decode cX6_init 73 = .ok (.iconst 3, 1) := by decide +kernel
theorem dX6_init_74 : decode cX6_init 74 = .ok (.invokevirtual 32, 3) := by decide +kernel
theorem dX6_init_77 : decode cX6_init 77 = .ok (.return_, 1) := by decide +kernel
set_option maxRecDepth 20000 in
theorem ggX6_copyFrom_X5_copyFrom : GoodIn wsX6_copyFrom wsX5_copyFrom := goodIn_r _ [13, 14, 15, 16, 17, 18, 19, 20, 21, 22, 31] (by decide +kernel) (by decide +kernel)
set_option maxRecDepth 20000 in
theorem gX6_copyFrom_X5_copyFrom : GoodIn wsX6_copyFrom (wsV RX6 35 RX5 yX5_copyFrom wsX5_copyFrom) := goodIn_app (goodIn_of _ (by decide +kernel)) ggX6_copyFrom_X5_copyFrom
theorem dX6_copyFrom_0 : decode cX6_copyFrom 0 = .ok (.aload_n 0, 1) := by decide +kernel
theorem dX6_copyFrom_1 : decode cX6_copyFrom 1 = .ok (.getfield 14, 3) := by decide +kernel
theorem dX6_copyFrom_4 : decode cX6_copyFrom 4 = .ok (.aload_n 1, 1) := by decide +kernel
theorem dX6_copyFrom_5 : decode cX6_copyFrom 5 = .ok (.getfield 14, 3) := by decide +kernel
theorem dX6_copyFrom_8 : decode cX6_copyFrom 8 = .ok (.invokevirtual 35, 3) := by decide +kernel
theorem dX6_copyFrom_11 : decode cX6_copyFrom 11 = .ok (.aload_n 0, 1) := by decide +kernel
theorem dX6_copyFrom_12 : decode cX6_copyFrom 12 = .ok (.getfield 20, 3) := by decide +kernel
theorem dX6_copyFrom_15 : decode cX6_copyFrom 15 = .ok (.aload_n 1, 1) := by decide +kernel
theorem dX6_copyFrom_16 : decode cX6_copyFrom 16 = .ok (.getfield 20, 3) := by decide +kernel
theorem dX6_copyFrom_19 : decode cX6_copyFrom 19 = .ok (.invokevirtual 35, 3) := by decide +kernel
theorem dX6_copyFrom_22 : decode cX6_copyFrom 22 = .ok (.aload_n 0, 1) := by decide +kernel
theorem dX6_copyFrom_23 : decode cX6_copyFrom 23 = .ok (.getfield 23, 3) := by decide +kernel
theorem dX6_copyFrom_26 : decode cX6_copyFrom 26 = .ok (.aload_n 1, 1) := by decide +kernel
theorem dX6_copyFrom_27 : decode cX6_copyFrom 27 = .ok (.getfield 23, 3) := by decide +kernel
theorem dX6_copyFrom_30 : decode cX6_copyFrom 30 = .ok (.invokevirtual 35, 3) := by decide +kernel
theorem dX6_copyFrom_33 : decode cX6_copyFrom 33 = .ok (.aload_n 0, 1) := by decide +kernel
theorem dX6_copyFrom_34 : decode cX6_copyFrom 34 = .ok (.getfield 26, 3) := by decide +kernel
theorem dX6_copyFrom_37 : decode cX6_copyFrom 37 = .ok (.aload_n 1, 1) := by decide +kernel
theorem dX6_copyFrom_38 : decode cX6_copyFrom 38 = .ok (.getfield 26, 3) := by decide +kernel
theorem dX6_copyFrom_41 : decode cX6_copyFrom 41 = .ok (.invokevirtual 35, 3) := by decide +kernel
theorem dX6_copyFrom_44 : decode cX6_copyFrom 44 = .ok (.aload_n 0, 1) := by decide +kernel
theorem dX6_copyFrom_45 : decode cX6_copyFrom 45 = .ok (.getfield 29, 3) := by decide +kernel
theorem dX6_copyFrom_48 : decode cX6_copyFrom 48 = .ok (.aload_n 1, 1) := by decide +kernel
theorem dX6_copyFrom_49 : decode cX6_copyFrom 49 = .ok (.getfield 29, 3) := by decide +kernel
theorem dX6_copyFrom_52 : decode cX6_copyFrom 52 = .ok (.invokevirtual 35, 3) := by decide +kernel
theorem dX6_copyFrom_55 : decode cX6_copyFrom 55 = .ok (.aload_n 0, 1) := by decide +kernel
theorem dX6_copyFrom_56 : decode cX6_copyFrom 56 = .ok (.aload_n 1, 1) := by decide +kernel
theorem dX6_copyFrom_57 : decode cX6_copyFrom 57 = .ok (.getfield 39, 3) := by decide +kernel
theorem dX6_copyFrom_60 : decode cX6_copyFrom 60 = .ok (.putfield 39, 3) := by decide +kernel
theorem dX6_copyFrom_63 : decode cX6_copyFrom 63 = .ok (.aload_n 0, 1) := by decide +kernel
theorem dX6_copyFrom_64 : decode cX6_copyFrom 64 = .ok (.aload_n 1, 1) := by decide +kernel
theorem dX6_copyFrom_65 : decode cX6_copyFrom 65 = .ok (.getfield 43, 3) := by decide +kernel
theorem dX6_copyFrom_68 : decode cX6_copyFrom 68 = .ok (.putfield 43, 3) := by decide +kernel
theorem dX6_copyFrom_71 : decode cX6_copyFrom 71 = .ok (.aload_n 0, 1) := by decide +kernel
theorem dX6_copyFrom_72 : decode cX6_copyFrom 72 = .ok (.aload_n 1, 1) := by decide +kernel
theorem dX6_copyFrom_73 : decode cX6_copyFrom 73 = .ok (.getfield 46, 3) := by decide +kernel
theorem dX6_copyFrom_76 : decode cX6_copyFrom 76 = .ok (.putfield 46, 3) := by decide +kernel
theorem dX6_copyFrom_79 : decode cX6_copyFrom 79 = .ok (.return_, 1) := by decide +kernel
theorem dX6_hasClapped_0 : decode cX6_hasClapped 0 = .ok (.aload_n 0, 1) := by decide +kernel
theorem dX6_hasClapped_1 : decode cX6_hasClapped 1 = .ok (.getfield 46, 3) := by decide +kernel
theorem dX6_hasClapped_4 : decode cX6_hasClapped 4 = .ok (.iload_n 1, 1) := by decide +kernel
theorem dX6_hasClapped_5 : decode cX6_hasClapped 5 = .ok (.ishr, 1) := by decide +kernel
theorem dX6_hasClapped_6 : decode cX6_hasClapped 6 = .ok (.iconst 1, 1) := by decide +kernel
theorem dX6_hasClapped_7 : decode cX6_hasClapped 7 = .ok (.iand, 1) := by decide +kernel
theorem dX6_hasClapped_8 : decode cX6_hasClapped 8 = .ok (.iconst 1, 1) := by decide +kernel
theorem dX6_hasClapped_9 : decode cX6_hasClapped 9 = .ok (.if_icmp .ne 7, 3) := by decide +kernel
theorem dX6_hasClapped_12 : decode cX6_hasClapped 12 = .ok (.iconst 1, 1) := by decide +kernel
theorem dX6_hasClapped_13 : decode cX6_hasClapped 13 = .ok (.goto 4, 3) := by decide +kernel
theorem dX6_hasClapped_16 : decode cX6_hasClapped 16 = .ok (.iconst 0, 1) := by decide +kernel
theorem dX6_hasClapped_17 : decode cX6_hasClapped 17 = .ok (.ireturn, 1) := by decide +kernel
theorem dX6_beginPiece_0 : decode cX6_beginPiece 0 = .ok (.aload_n 0, 1) := by decide +kernel
theorem dX6_beginPiece_1 : decode cX6_beginPiece 1 = .ok (.iconst 0, 1) := by decide +kernel
theorem dX6_beginPiece_2 : decode cX6_beginPiece 2 = .ok (.putfield 46, 3) := by decide +kernel
theorem dX6_beginPiece_5 : decode cX6_beginPiece 5 = .ok (.return_, 1) := by decide +kernel
set_option maxRecDepth 20000 in
theorem ggX6_beginNight_X5_fill : GoodIn wsX6_beginNight wsX5_fill := goodIn_r _ [8, 9, 18] (by decide +kernel) (by decide +kernel)
set_option maxRecDepth 20000 in
theorem gX6_beginNight_X5_fill : GoodIn wsX6_beginNight (wsV RX6 32 RX5 yX5_fill wsX5_fill) := goodIn_app (goodIn_of _ (by decide +kernel)) ggX6_beginNight_X5_fill
theorem dX6_beginNight_0 : decode cX6_beginNight 0 = .ok (.aload_n 0, 1) := by decide +kernel
theorem dX6_beginNight_1 : decode cX6_beginNight 1 = .ok (.iconst 0, 1) := by decide +kernel
theorem dX6_beginNight_2 : decode cX6_beginNight 2 = .ok (.putfield 46, 3) := by decide +kernel
theorem dX6_beginNight_5 : decode cX6_beginNight 5 = .ok (.aload_n 0, 1) := by decide +kernel
theorem dX6_beginNight_6 : decode cX6_beginNight 6 = .ok (.getfield 23, 3) := by decide +kernel
theorem dX6_beginNight_9 : decode cX6_beginNight 9 = .ok (.iconst 0, 1) := by decide +kernel
theorem dX6_beginNight_10 : decode cX6_beginNight 10 = .ok (.invokevirtual 32, 3) := by decide +kernel
theorem dX6_beginNight_13 : decode cX6_beginNight 13 = .ok (.aload_n 0, 1) := by decide +kernel
theorem dX6_beginNight_14 : decode cX6_beginNight 14 = .ok (.iconst 0, 1) := by decide +kernel
theorem dX6_beginNight_15 : decode cX6_beginNight 15 = .ok (.putfield 39, 3) := by decide +kernel
theorem dX6_beginNight_18 : decode cX6_beginNight 18 = .ok (.return_, 1) := by decide +kernel
set_option maxRecDepth 20000 in
theorem ggX6_addClap_X6_hasClapped : GoodIn wsX6_addClap wsX6_hasClapped := goodIn_r _ [11, 5, 26, 27, 28, 29, 30, 31, 32, 33] (by decide +kernel) (by decide +kernel)
set_option maxRecDepth 20000 in
theorem gX6_addClap_X6_hasClapped : GoodIn wsX6_addClap (wsV RX6 49 RX6 yX6_hasClapped wsX6_hasClapped) := goodIn_app (goodIn_of _ (by decide +kernel)) ggX6_addClap_X6_hasClapped
set_option maxRecDepth 20000 in
theorem ggX6_addClap_X5_add : GoodIn wsX6_addClap wsX5_add := goodIn_r _ [16, 17, 34] (by decide +kernel) (by decide +kernel)
set_option maxRecDepth 20000 in
theorem gX6_addClap_X5_add : GoodIn wsX6_addClap (wsV RX6 53 RX5 yX5_add wsX5_add) := goodIn_app (goodIn_of _ (by decide +kernel)) ggX6_addClap_X5_add
set_option maxRecDepth 20000 in
theorem ggX6_addClap_X5_at : GoodIn wsX6_addClap wsX5_at := goodIn_r _ [21, 17, 34] (by decide +kernel) (by decide +kernel)
set_option maxRecDepth 20000 in
theorem gX6_addClap_X5_at : GoodIn wsX6_addClap (wsV RX6 57 RX5 yX5_at wsX5_at) := goodIn_app (goodIn_of _ (by decide +kernel)) ggX6_addClap_X5_at
set_option maxRecDepth 20000 in
theorem ggX6_addClap_X5_store : GoodIn wsX6_addClap wsX5_store := goodIn_r _ [25, 17, 34] (by decide +kernel) (by decide +kernel)
set_option maxRecDepth 20000 in
theorem gX6_addClap_X5_store : GoodIn wsX6_addClap (wsV RX6 61 RX5 yX5_store wsX5_store) := goodIn_app (goodIn_of _ (by decide +kernel)) ggX6_addClap_X5_store
theorem dX6_addClap_0 : decode cX6_addClap 0 = .ok (.iload_n 2, 1) := by decide +kernel
theorem dX6_addClap_1 : decode cX6_addClap 1 = .ok (.ifCond .eq 20, 3) := by decide +kernel
theorem dX6_addClap_4 : decode cX6_addClap 4 = .ok (.aload_n 0, 1) := by decide +kernel
theorem dX6_addClap_5 : decode cX6_addClap 5 = .ok (.iload_n 1, 1) := by decide +kernel
theorem dX6_addClap_6 : decode cX6_addClap 6 = .ok (.invokevirtual 49, 3) := by decide +kernel
theorem dX6_addClap_9 : decode cX6_addClap 9 = .ok (.ifCond .ne 12, 3) := by decide +kernel
theorem dX6_addClap_12 : decode cX6_addClap 12 = .ok (.aload_n 0, 1) := by decide +kernel
theorem dX6_addClap_13 : decode cX6_addClap 13 = .ok (.getfield 20, 3) := by decide +kernel
theorem dX6_addClap_16 : decode cX6_addClap 16 = .ok (.iload_n 1, 1) := by decide +kernel
theorem dX6_addClap_17 : decode cX6_addClap 17 = .ok (.iconst 1, 1) := by decide +kernel
theorem dX6_addClap_18 : decode cX6_addClap 18 = .ok (.invokevirtual 53, 3) := by decide +kernel
theorem dX6_addClap_21 : decode cX6_addClap 21 = .ok (.aload_n 0, 1) := by decide +kernel
theorem dX6_addClap_22 : decode cX6_addClap 22 = .ok (.getfield 23, 3) := by decide +kernel
theorem dX6_addClap_25 : decode cX6_addClap 25 = .ok (.iload_n 1, 1) := by decide +kernel
theorem dX6_addClap_26 : decode cX6_addClap 26 = .ok (.invokevirtual 57, 3) := by decide +kernel
theorem dX6_addClap_29 : decode cX6_addClap 29 = .ok (.ifCond .ne 25, 3) := by decide +kernel
theorem dX6_addClap_32 : decode cX6_addClap 32 = .ok (.aload_n 0, 1) := by decide +kernel
theorem dX6_addClap_33 : decode cX6_addClap 33 = .ok (.getfield 29, 3) := by decide +kernel
theorem dX6_addClap_36 : decode cX6_addClap 36 = .ok (.aload_n 0, 1) := by decide +kernel
theorem dX6_addClap_37 : decode cX6_addClap 37 = .ok (.getfield 39, 3) := by decide +kernel
theorem dX6_addClap_40 : decode cX6_addClap 40 = .ok (.iload_n 1, 1) := by decide +kernel
theorem dX6_addClap_41 : decode cX6_addClap 41 = .ok (.invokevirtual 61, 3) := by decide +kernel
theorem dX6_addClap_44 : decode cX6_addClap 44 = .ok (.aload_n 0, 1) := by decide +kernel
theorem dX6_addClap_45 : decode cX6_addClap 45 = .ok (.dup, 1) := by decide +kernel
theorem dX6_addClap_46 : decode cX6_addClap 46 = .ok (.getfield 39, 3) := by decide +kernel
theorem dX6_addClap_49 : decode cX6_addClap 49 = .ok (.iconst 1, 1) := by decide +kernel
theorem dX6_addClap_50 : decode cX6_addClap 50 = .ok (.iadd, 1) := by decide +kernel
theorem dX6_addClap_51 : decode cX6_addClap 51 = .ok (.putfield 39, 3) := by decide +kernel
theorem dX6_addClap_54 : decode cX6_addClap 54 = .ok (.aload_n 0, 1) := by decide +kernel
theorem dX6_addClap_55 : decode cX6_addClap 55 = .ok (.dup, 1) := by decide +kernel
theorem dX6_addClap_56 : decode cX6_addClap 56 = .ok (.getfield 46, 3) := by decide +kernel
theorem dX6_addClap_59 : decode cX6_addClap 59 = .ok (.iconst 1, 1) := by decide +kernel
theorem dX6_addClap_60 : decode cX6_addClap 60 = .ok (.iload_n 1, 1) := by decide +kernel
theorem dX6_addClap_61 : decode cX6_addClap 61 = .ok (.ishl, 1) := by decide +kernel
theorem dX6_addClap_62 : decode cX6_addClap 62 = .ok (.ior, 1) := by decide +kernel
theorem dX6_addClap_63 : decode cX6_addClap 63 = .ok (.putfield 46, 3) := by decide +kernel
theorem dX6_addClap_66 : decode cX6_addClap 66 = .ok (.aload_n 0, 1) := by decide +kernel
theorem dX6_addClap_67 : decode cX6_addClap 67 = .ok (.getfield 23, 3) := by decide +kernel
theorem dX6_addClap_70 : decode cX6_addClap 70 = .ok (.iload_n 1, 1) := by decide +kernel
theorem dX6_addClap_71 : decode cX6_addClap 71 = .ok (.iconst 1, 1) := by decide +kernel
theorem dX6_addClap_72 : decode cX6_addClap 72 = .ok (.invokevirtual 53, 3) := by decide +kernel
theorem dX6_addClap_75 : decode cX6_addClap 75 = .ok (.aload_n 0, 1) := by decide +kernel
theorem dX6_addClap_76 : decode cX6_addClap 76 = .ok (.getfield 26, 3) := by decide +kernel
theorem dX6_addClap_79 : decode cX6_addClap 79 = .ok (.iload_n 1, 1) := by decide +kernel
theorem dX6_addClap_80 : decode cX6_addClap 80 = .ok (.iconst 1, 1) := by decide +kernel
theorem dX6_addClap_81 : decode cX6_addClap 81 = .ok (.invokevirtual 53, 3) := by decide +kernel
theorem dX6_addClap_84 : decode cX6_addClap 84 = .ok (.return_, 1) := by decide +kernel
set_option maxRecDepth 20000 in
theorem ggX6_suspected_X5_at : GoodIn wsX6_suspected wsX5_at := goodIn_r _ [6, 7, 16] (by decide +kernel) (by decide +kernel)
set_option maxRecDepth 20000 in
theorem gX6_suspected_X5_at : GoodIn wsX6_suspected (wsV RX6 57 RX5 yX5_at wsX5_at) := goodIn_app (goodIn_of _ (by decide +kernel)) ggX6_suspected_X5_at
theorem dX6_suspected_0 : decode cX6_suspected 0 = .ok (.iconst 0, 1) := by decide +kernel
theorem dX6_suspected_1 : decode cX6_suspected 1 = .ok (.istore_n 2, 1) := by decide +kernel
theorem dX6_suspected_2 : decode cX6_suspected 2 = .ok (.iconst 0, 1) := by decide +kernel
theorem dX6_suspected_3 : decode cX6_suspected 3 = .ok (.istore_n 3, 1) := by decide +kernel
theorem dX6_suspected_4 : decode cX6_suspected 4 = .ok (.iload_n 3, 1) := by decide +kernel
theorem dX6_suspected_5 : decode cX6_suspected 5 = .ok (.bipush 30, 2) := by decide +kernel
theorem dX6_suspected_7 : decode cX6_suspected 7 = .ok (.if_icmp .ge 27, 3) := by decide +kernel
theorem dX6_suspected_10 : decode cX6_suspected 10 = .ok (.aload_n 0, 1) := by decide +kernel
theorem dX6_suspected_11 : decode cX6_suspected 11 = .ok (.getfield 20, 3) := by decide +kernel
theorem dX6_suspected_14 : decode cX6_suspected 14 = .ok (.iload_n 3, 1) := by decide +kernel
theorem dX6_suspected_15 : decode cX6_suspected 15 = .ok (.invokevirtual 57, 3) := by decide +kernel
theorem dX6_suspected_18 : decode cX6_suspected 18 = .ok (.iload_n 1, 1) := by decide +kernel
theorem dX6_suspected_19 : decode cX6_suspected 19 = .ok (.if_icmp .lt 9, 3) := by decide +kernel
theorem dX6_suspected_22 : decode cX6_suspected 22 = .ok (.iload_n 2, 1) := by decide +kernel
theorem dX6_suspected_23 : decode cX6_suspected 23 = .ok (.iconst 1, 1) := by decide +kernel
theorem dX6_suspected_24 : decode cX6_suspected 24 = .ok (.iload_n 3, 1) := by decide +kernel
theorem dX6_suspected_25 : decode cX6_suspected 25 = .ok (.ishl, 1) := by decide +kernel
theorem dX6_suspected_26 : decode cX6_suspected 26 = .ok (.ior, 1) := by decide +kernel
theorem dX6_suspected_27 : decode cX6_suspected 27 = .ok (.istore_n 2, 1) := by decide +kernel
theorem dX6_suspected_28 : decode cX6_suspected 28 = .ok (.iinc 3 1, 3) := by decide +kernel
theorem dX6_suspected_31 : decode cX6_suspected 31 = .ok (.goto (-27), 3) := by decide +kernel
theorem dX6_suspected_34 : decode cX6_suspected 34 = .ok (.iload_n 2, 1) := by decide +kernel
theorem dX6_suspected_35 : decode cX6_suspected 35 = .ok (.ireturn, 1) := by decide +kernel
set_option maxRecDepth 20000 in
theorem ggX6_clapperAt_X5_at : GoodIn wsX6_clapperAt wsX5_at := goodIn_r _ [7, 8, 17] (by decide +kernel) (by decide +kernel)
set_option maxRecDepth 20000 in
theorem gX6_clapperAt_X5_at : GoodIn wsX6_clapperAt (wsV RX6 57 RX5 yX5_at wsX5_at) := goodIn_app (goodIn_of _ (by decide +kernel)) ggX6_clapperAt_X5_at
theorem dX6_clapperAt_0 : decode cX6_clapperAt 0 = .ok (.iload_n 1, 1) := by decide +kernel
theorem dX6_clapperAt_1 : decode cX6_clapperAt 1 = .ok (.ifCond .lt 22, 3) := by decide +kernel
theorem dX6_clapperAt_4 : decode cX6_clapperAt 4 = .ok (.iload_n 1, 1) := by decide +kernel
theorem dX6_clapperAt_5 : decode cX6_clapperAt 5 = .ok (.aload_n 0, 1) := by decide +kernel
theorem dX6_clapperAt_6 : decode cX6_clapperAt 6 = .ok (.getfield 39, 3) := by decide +kernel
theorem dX6_clapperAt_9 : decode cX6_clapperAt 9 = .ok (.if_icmp .ge 14, 3) := by decide +kernel
theorem dX6_clapperAt_12 : decode cX6_clapperAt 12 = .ok (.aload_n 0, 1) := by decide +kernel
theorem dX6_clapperAt_13 : decode cX6_clapperAt 13 = .ok (.getfield 29, 3) := by decide +kernel
theorem dX6_clapperAt_16 : decode cX6_clapperAt 16 = .ok (.iload_n 1, 1) := by decide +kernel
theorem dX6_clapperAt_17 : decode cX6_clapperAt 17 = .ok (.invokevirtual 57, 3) := by decide +kernel
theorem dX6_clapperAt_20 : decode cX6_clapperAt 20 = .ok (.goto 4, 3) := by decide +kernel
theorem dX6_clapperAt_23 : decode cX6_clapperAt 23 = .ok (.iconst (-1), 1) := by decide +kernel
theorem dX6_clapperAt_24 : decode cX6_clapperAt 24 = .ok (.ireturn, 1) := by decide +kernel
set_option maxRecDepth 20000 in
theorem ggX7_init_X2_init : GoodIn wsX7_init wsX2_init := goodIn_r _ [23, 24, 2, 3, 25, 26, 27, 28, 29, 30, 31, 32, 33, 34, 35, 36, 37, 38, 39, 40, 41, 42, 43, 44, 45, 46, 47, 48, 49, 50, 51, 52, 53, 54, 55, 56, 57, 58, 59, 60, 61, 62, 63, 64, 65, 66, 67, 68, 69, 70, 71, 72, 73, 74, 75, 76, 77, 78, 121, 95, 96, 97, 98, 99, 100, 101, 102, 103, 104, 105, 122, 123, 124, 125, 126, 127, 128, 129, 130, 131, 132, 133, 134, 135] (by decide +kernel) (by decide +kernel)
set_option maxRecDepth 20000 in
theorem gX7_init_X2_init : GoodIn wsX7_init (wsX2_init) := ggX7_init_X2_init
set_option maxRecDepth 20000 in
theorem ggX7_init_X1_init : GoodIn wsX7_init wsX1_init := goodIn_r _ [81, 82, 2, 3, 83, 84, 5, 6, 85, 22, 23, 24, 25, 26, 27, 28, 29, 30, 31, 32, 33, 34, 35, 36, 37, 38, 39, 40, 41, 42, 43, 44, 45, 46, 47, 48, 49, 50, 51, 52, 53, 54, 55, 56, 57, 58, 59, 60, 61, 62, 63, 64, 65, 66, 67, 68, 69, 70, 71, 72, 73, 74, 75, 76, 77, 78, 111, 112, 113, 95, 96, 97, 98, 99, 100, 101, 102, 103, 104, 105, 121, 122, 123, 124, 125, 126, 127, 128, 129, 130, 131, 132, 133, 134, 135] (by decide +kernel) (by decide +kernel)
set_option maxRecDepth 20000 in
theorem gX7_init_X1_init : GoodIn wsX7_init (wsX1_init) := ggX7_init_X1_init
set_option maxRecDepth 20000 in
theorem ggX7_init_X4_init : GoodIn wsX7_init wsX4_init := goodIn_r _ [87, 88, 2, 3, 48, 89, 114, 115] (by decide +kernel) (by decide +kernel)
set_option maxRecDepth 20000 in
theorem gX7_init_X4_init_n29 : GoodIn wsX7_init (wsX4_init) := ggX7_init_X4_init
set_option maxRecDepth 20000 in
theorem ggX7_init_X3_init : GoodIn wsX7_init wsX3_init := goodIn_r _ [92, 93, 2, 3, 94, 116, 117, 118, 119, 120] (by decide +kernel) (by decide +kernel)
set_option maxRecDepth 20000 in
theorem gX7_init_X3_init : GoodIn wsX7_init (wsX3_init) := ggX7_init_X3_init
theorem dX7_init_0 : decode cX7_init 0 = .ok (.aload_n 0, 1) := by decide +kernel
theorem dX7_init_1 : decode cX7_init 1 = .ok (.invokespecial 1, 3) := by decide +kernel
theorem dX7_init_4 : decode cX7_init 4 = .ok (.aload_n 0, 1) := by decide +kernel
theorem dX7_init_5 : decode cX7_init 5 = .ok (.new 7, 3) := by decide +kernel
theorem dX7_init_8 : decode cX7_init 8 = .ok (.dup, 1) := by decide +kernel
theorem dX7_init_9 : decode cX7_init 9 = .ok (.invokespecial 9, 3) := by decide +kernel
theorem dX7_init_12 : decode cX7_init 12 = .ok (.putfield 10, 3) := by decide +kernel
theorem dX7_init_15 : decode cX7_init 15 = .ok (.aload_n 0, 1) := by decide +kernel
theorem dX7_init_16 : decode cX7_init 16 = .ok (.new 16, 3) := by decide +kernel
theorem dX7_init_19 : decode cX7_init 19 = .ok (.dup, 1) := by decide +kernel
theorem dX7_init_20 : decode cX7_init 20 = .ok (.invokespecial 18, 3) := by decide +kernel
theorem dX7_init_23 : decode cX7_init 23 = .ok (.putfield 19, 3) := by decide +kernel
theorem dX7_init_26 : decode cX7_init 26 = .ok (.aload_n 0, 1) := by decide +kernel
theorem dX7_init_27 : decode cX7_init 27 = .ok (.iconst 2, 1) := by decide +kernel
theorem dX7_init_28 : decode cX7_init 28 = .ok (.anewarray 7, 3) := by decide +kernel
theorem dX7_init_31 : decode cX7_init 31 = .ok (.putfield 23, 3) := by decide +kernel
theorem dX7_init_34 : decode cX7_init 34 = .ok (.aload_n 0, 1) := by decide +kernel
theorem dX7_init_35 : decode cX7_init 35 = .ok (.new 27, 3) := by decide +kernel
theorem dX7_init_38 : decode cX7_init 38 = .ok (.dup, 1) := by decide +kernel
theorem dX7_init_39 : decode cX7_init 39 = .ok (.invokespecial 29, 3) := by decide +kernel
theorem dX7_init_42 : decode cX7_init 42 = .ok (.putfield 30, 3) := by decide +kernel
theorem dX7_init_45 : decode cX7_init 45 = .ok (.aload_n 0, 1) := by decide +kernel
theorem dX7_init_46 : decode cX7_init 46 = .ok (.new 34, 3) := by decide +kernel
theorem dX7_init_49 : decode cX7_init 49 = .ok (.dup, 1) := by decide +kernel
theorem dX7_init_50 : decode cX7_init 50 = .ok (.aload_n 0, 1) := by decide +kernel
theorem dX7_init_51 : decode cX7_init 51 = .ok (.getfield 30, 3) := by decide +kernel
theorem dX7_init_54 : decode cX7_init 54 = .ok (.invokespecial 36, 3) := by decide +kernel
theorem dX7_init_57 : decode cX7_init 57 = .ok (.putfield 39, 3) := by decide +kernel
theorem dX7_init_60 : decode cX7_init 60 = .ok (.return_, 1) := by decide +kernel
set_option maxRecDepth 20000 in
theorem ggX7_set_X1_setAside : GoodIn wsX7_set wsX1_setAside := goodIn_r _ [7, 8, 9, 10, 11, 6, 12, 13, 14, 15, 16, 17, 18, 19, 20, 21, 22, 23, 24, 25, 26, 27, 28, 29, 30, 31, 32, 33, 34, 35, 36, 37, 38, 39, 40, 41, 42, 43, 44, 45, 46, 47, 48, 49, 50, 51, 52, 53, 54, 55, 56, 57, 58, 59, 60, 61, 62, 63, 64, 65, 66, 67, 68, 69, 93, 94, 95, 96, 97, 98, 99, 100, 101, 102, 103, 104, 105, 106, 107, 108, 109, 110, 111, 112, 113, 114, 115, 116, 117, 118, 119, 120, 121] (by decide +kernel) (by decide +kernel)
set_option maxRecDepth 20000 in
theorem gX7_set_X1_setAside : GoodIn wsX7_set (wsV RX7 43 RX1 yX1_setAside wsX1_setAside) := goodIn_app (goodIn_of _ (by decide +kernel)) ggX7_set_X1_setAside
set_option maxRecDepth 20000 in
theorem ggX7_set_X2_changeSetting : GoodIn wsX7_set wsX2_changeSetting := goodIn_r _ [73, 19, 74, 75, 76, 33, 77, 35, 78, 79, 80, 81, 96, 97, 98, 99, 100, 101, 102, 103, 104, 105, 106, 107] (by decide +kernel) (by decide +kernel)
set_option maxRecDepth 20000 in
theorem gX7_set_X2_changeSetting : GoodIn wsX7_set (wsV RX7 47 RX2 yX2_changeSetting wsX2_changeSetting) := goodIn_app (goodIn_of _ (by decide +kernel)) ggX7_set_X2_changeSetting
set_option maxRecDepth 20000 in
theorem ggX7_set_X1_keepUnlessError : GoodIn wsX7_set wsX1_keepUnlessError := goodIn_r _ [85, 8, 86, 87, 37, 38, 39, 93, 94, 95] (by decide +kernel) (by decide +kernel)
set_option maxRecDepth 20000 in
theorem gX7_set_X1_keepUnlessError : GoodIn wsX7_set (wsV RX7 51 RX1 yX1_keepUnlessError wsX1_keepUnlessError) := goodIn_app (goodIn_of _ (by decide +kernel)) ggX7_set_X1_keepUnlessError
theorem dX7_set_0 : decode cX7_set 0 = .ok (.aload_n 0, 1) := by decide +kernel
theorem dX7_set_1 : decode cX7_set 1 = .ok (.getfield 19, 3) := by decide +kernel
theorem dX7_set_4 : decode cX7_set 4 = .ok (.aload_n 0, 1) := by decide +kernel
theorem dX7_set_5 : decode cX7_set 5 = .ok (.getfield 10, 3) := by decide +kernel
theorem dX7_set_8 : decode cX7_set 8 = .ok (.invokevirtual 43, 3) := by decide +kernel
theorem dX7_set_11 : decode cX7_set 11 = .ok (.aload_n 0, 1) := by decide +kernel
theorem dX7_set_12 : decode cX7_set 12 = .ok (.getfield 19, 3) := by decide +kernel
theorem dX7_set_15 : decode cX7_set 15 = .ok (.aload_n 0, 1) := by decide +kernel
theorem dX7_set_16 : decode cX7_set 16 = .ok (.getfield 10, 3) := by decide +kernel
theorem dX7_set_19 : decode cX7_set 19 = .ok (.iload_n 1, 1) := by decide +kernel
theorem dX7_set_20 : decode cX7_set 20 = .ok (.iload_n 2, 1) := by decide +kernel
theorem dX7_set_21 : decode cX7_set 21 = .ok (.invokevirtual 47, 3) := by decide +kernel
theorem dX7_set_24 : decode cX7_set 24 = .ok (.invokevirtual 51, 3) := by decide +kernel
theorem dX7_set_27 : decode cX7_set 27 = .ok (.ireturn, 1) := by decide +kernel
set_option maxRecDepth 20000 in
theorem ggX7_loud_X1_setAside : GoodIn wsX7_loud wsX1_setAside := goodIn_r _ [7, 8, 9, 10, 11, 6, 12, 13, 14, 15, 16, 17, 18, 19, 20, 21, 22, 23, 24, 25, 26, 27, 28, 29, 30, 31, 32, 33, 34, 35, 36, 37, 38, 39, 40, 41, 42, 43, 44, 45, 46, 47, 48, 49, 50, 51, 52, 53, 54, 55, 56, 57, 58, 59, 60, 61, 62, 63, 64, 65, 66, 67, 68, 69, 96, 97, 98, 99, 100, 101, 102, 103, 104, 105, 106, 107, 108, 109, 110, 111, 112, 113, 114, 115, 116, 117, 118, 119, 120, 121, 122, 123, 124] (by decide +kernel) (by decide +kernel)
set_option maxRecDepth 20000 in
theorem gX7_loud_X1_setAside : GoodIn wsX7_loud (wsV RX7 43 RX1 yX1_setAside wsX1_setAside) := goodIn_app (goodIn_of _ (by decide +kernel)) ggX7_loud_X1_setAside
set_option maxRecDepth 20000 in
theorem ggX7_loud_X2_changeLoudness : GoodIn wsX7_loud wsX2_changeLoudness := goodIn_r _ [73, 20, 74, 75, 76, 77, 78, 79, 33, 80, 35, 81, 82, 83, 84, 99, 100, 101, 102, 103, 104, 105, 106, 107, 108, 109, 111, 112, 113, 114, 115, 116, 117, 118, 110] (by decide +kernel) (by decide +kernel)
set_option maxRecDepth 20000 in
theorem gX7_loud_X2_changeLoudness : GoodIn wsX7_loud (wsV RX7 55 RX2 yX2_changeLoudness wsX2_changeLoudness) := goodIn_app (goodIn_of _ (by decide +kernel)) ggX7_loud_X2_changeLoudness
set_option maxRecDepth 20000 in
theorem ggX7_loud_X1_keepUnlessError : GoodIn wsX7_loud wsX1_keepUnlessError := goodIn_r _ [88, 8, 89, 90, 37, 38, 39, 96, 97, 98] (by decide +kernel) (by decide +kernel)
set_option maxRecDepth 20000 in
theorem gX7_loud_X1_keepUnlessError : GoodIn wsX7_loud (wsV RX7 51 RX1 yX1_keepUnlessError wsX1_keepUnlessError) := goodIn_app (goodIn_of _ (by decide +kernel)) ggX7_loud_X1_keepUnlessError
theorem dX7_loud_0 : decode cX7_loud 0 = .ok (.aload_n 0, 1) := by decide +kernel
theorem dX7_loud_1 : decode cX7_loud 1 = .ok (.getfield 19, 3) := by decide +kernel
theorem dX7_loud_4 : decode cX7_loud 4 = .ok (.aload_n 0, 1) := by decide +kernel
theorem dX7_loud_5 : decode cX7_loud 5 = .ok (.getfield 10, 3) := by decide +kernel
theorem dX7_loud_8 : decode cX7_loud 8 = .ok (.invokevirtual 43, 3) := by decide +kernel
theorem dX7_loud_11 : decode cX7_loud 11 = .ok (.aload_n 0, 1) := by decide +kernel
theorem dX7_loud_12 : decode cX7_loud 12 = .ok (.getfield 19, 3) := by decide +kernel
theorem dX7_loud_15 : decode cX7_loud 15 = .ok (.aload_n 0, 1) := by decide +kernel
theorem dX7_loud_16 : decode cX7_loud 16 = .ok (.getfield 10, 3) := by decide +kernel
theorem dX7_loud_19 : decode cX7_loud 19 = .ok (.iload_n 1, 1) := by decide +kernel
theorem dX7_loud_20 : decode cX7_loud 20 = .ok (.iload_n 2, 1) := by decide +kernel
theorem dX7_loud_21 : decode cX7_loud 21 = .ok (.invokevirtual 55, 3) := by decide +kernel
theorem dX7_loud_24 : decode cX7_loud 24 = .ok (.invokevirtual 51, 3) := by decide +kernel
theorem dX7_loud_27 : decode cX7_loud 27 = .ok (.ireturn, 1) := by decide +kernel
set_option maxRecDepth 20000 in
theorem ggX7_pay_X1_setAside : GoodIn wsX7_pay wsX1_setAside := goodIn_r _ [7, 8, 9, 10, 11, 6, 12, 13, 14, 15, 16, 17, 18, 19, 20, 21, 22, 23, 24, 25, 26, 27, 28, 29, 30, 31, 32, 33, 34, 35, 36, 37, 38, 39, 40, 41, 42, 43, 44, 45, 46, 47, 48, 49, 50, 51, 52, 53, 54, 55, 56, 57, 58, 59, 60, 61, 62, 63, 64, 65, 66, 67, 68, 69, 88, 89, 90, 91, 92, 93, 94, 95, 96, 97, 98, 99, 100, 101, 102, 103, 104, 105, 106, 107, 108, 109, 110, 111, 112, 113, 114, 115, 116] (by decide +kernel) (by decide +kernel)
set_option maxRecDepth 20000 in
theorem gX7_pay_X1_setAside : GoodIn wsX7_pay (wsV RX7 43 RX1 yX1_setAside wsX1_setAside) := goodIn_app (goodIn_of _ (by decide +kernel)) ggX7_pay_X1_setAside
set_option maxRecDepth 20000 in
theorem ggX7_pay_X2_switchPay : GoodIn wsX7_pay wsX2_switchPay := goodIn_r _ [73, 20, 74, 75, 76, 91, 92, 93, 94, 95, 96, 97, 98, 99, 100, 101, 103, 104, 105, 106, 107, 108, 109, 110] (by decide +kernel) (by decide +kernel)
set_option maxRecDepth 20000 in
theorem gX7_pay_X2_switchPay : GoodIn wsX7_pay (wsV RX7 58 RX2 yX2_switchPay wsX2_switchPay) := goodIn_app (goodIn_of _ (by decide +kernel)) ggX7_pay_X2_switchPay
set_option maxRecDepth 20000 in
theorem ggX7_pay_X1_keepUnlessError : GoodIn wsX7_pay wsX1_keepUnlessError := goodIn_r _ [80, 8, 81, 82, 37, 38, 39, 88, 89, 90] (by decide +kernel) (by decide +kernel)
set_option maxRecDepth 20000 in
theorem gX7_pay_X1_keepUnlessError : GoodIn wsX7_pay (wsV RX7 51 RX1 yX1_keepUnlessError wsX1_keepUnlessError) := goodIn_app (goodIn_of _ (by decide +kernel)) ggX7_pay_X1_keepUnlessError
theorem dX7_pay_0 : decode cX7_pay 0 = .ok (.aload_n 0, 1) := by decide +kernel
theorem dX7_pay_1 : decode cX7_pay 1 = .ok (.getfield 19, 3) := by decide +kernel
theorem dX7_pay_4 : decode cX7_pay 4 = .ok (.aload_n 0, 1) := by decide +kernel
theorem dX7_pay_5 : decode cX7_pay 5 = .ok (.getfield 10, 3) := by decide +kernel
theorem dX7_pay_8 : decode cX7_pay 8 = .ok (.invokevirtual 43, 3) := by decide +kernel
theorem dX7_pay_11 : decode cX7_pay 11 = .ok (.aload_n 0, 1) := by decide +kernel
theorem dX7_pay_12 : decode cX7_pay 12 = .ok (.getfield 19, 3) := by decide +kernel
theorem dX7_pay_15 : decode cX7_pay 15 = .ok (.aload_n 0, 1) := by decide +kernel
theorem dX7_pay_16 : decode cX7_pay 16 = .ok (.getfield 10, 3) := by decide +kernel
theorem dX7_pay_19 : decode cX7_pay 19 = .ok (.iload_n 1, 1) := by decide +kernel
theorem dX7_pay_20 : decode cX7_pay 20 = .ok (.invokevirtual 58, 3) := by decide +kernel
theorem dX7_pay_23 : decode cX7_pay 23 = .ok (.invokevirtual 51, 3) := by decide +kernel
theorem dX7_pay_26 : decode cX7_pay 26 = .ok (.ireturn, 1) := by decide +kernel
set_option maxRecDepth 20000 in
theorem ggX7_ends_X1_setAside : GoodIn wsX7_ends wsX1_setAside := goodIn_r _ [7, 8, 9, 10, 11, 6, 12, 13, 14, 15, 16, 17, 18, 19, 20, 21, 22, 23, 24, 25, 26, 27, 28, 29, 30, 31, 32, 33, 34, 35, 36, 37, 38, 39, 40, 41, 42, 43, 44, 45, 46, 47, 48, 49, 50, 51, 52, 53, 54, 55, 56, 57, 58, 59, 60, 61, 62, 63, 64, 65, 66, 67, 68, 69, 100, 101, 102, 103, 104, 105, 106, 107, 108, 109, 110, 111, 112, 113, 114, 115, 116, 117, 118, 119, 120, 121, 122, 123, 124, 125, 126, 127, 128] (by decide +kernel) (by decide +kernel)
set_option maxRecDepth 20000 in
theorem gX7_ends_X1_setAside : GoodIn wsX7_ends (wsV RX7 43 RX1 yX1_setAside wsX1_setAside) := goodIn_app (goodIn_of _ (by decide +kernel)) ggX7_ends_X1_setAside
set_option maxRecDepth 20000 in
theorem ggX7_ends_X2_endPiece : GoodIn wsX7_ends wsX2_endPiece := goodIn_r _ [73, 24, 74, 75, 76, 77, 78, 79, 17, 80, 21, 20, 27, 25, 28, 29, 81, 82, 83, 33, 84, 35, 85, 86, 87, 47, 88, 56, 103, 104, 105, 106, 107, 108, 109, 110, 111, 112, 113, 123, 124, 125, 126, 127, 128, 114, 115, 116, 117, 118, 119, 120, 121, 122] (by decide +kernel) (by decide +kernel)
set_option maxRecDepth 20000 in
theorem gX7_ends_X2_endPiece : GoodIn wsX7_ends (wsV RX7 61 RX2 yX2_endPiece wsX2_endPiece) := goodIn_app (goodIn_of _ (by decide +kernel)) ggX7_ends_X2_endPiece
set_option maxRecDepth 20000 in
theorem ggX7_ends_X1_keepUnlessError : GoodIn wsX7_ends wsX1_keepUnlessError := goodIn_r _ [92, 8, 93, 94, 37, 38, 39, 100, 101, 102] (by decide +kernel) (by decide +kernel)
set_option maxRecDepth 20000 in
theorem gX7_ends_X1_keepUnlessError : GoodIn wsX7_ends (wsV RX7 51 RX1 yX1_keepUnlessError wsX1_keepUnlessError) := goodIn_app (goodIn_of _ (by decide +kernel)) ggX7_ends_X1_keepUnlessError
theorem dX7_ends_0 : decode cX7_ends 0 = .ok (.aload_n 0, 1) := by decide +kernel
theorem dX7_ends_1 : decode cX7_ends 1 = .ok (.getfield 19, 3) := by decide +kernel
theorem dX7_ends_4 : decode cX7_ends 4 = .ok (.aload_n 0, 1) := by decide +kernel
theorem dX7_ends_5 : decode cX7_ends 5 = .ok (.getfield 10, 3) := by decide +kernel
theorem dX7_ends_8 : decode cX7_ends 8 = .ok (.invokevirtual 43, 3) := by decide +kernel
theorem dX7_ends_11 : decode cX7_ends 11 = .ok (.aload_n 0, 1) := by decide +kernel
theorem dX7_ends_12 : decode cX7_ends 12 = .ok (.getfield 19, 3) := by decide +kernel
theorem dX7_ends_15 : decode cX7_ends 15 = .ok (.aload_n 0, 1) := by decide +kernel
theorem dX7_ends_16 : decode cX7_ends 16 = .ok (.getfield 10, 3) := by decide +kernel
theorem dX7_ends_19 : decode cX7_ends 19 = .ok (.iload_n 1, 1) := by decide +kernel
theorem dX7_ends_20 : decode cX7_ends 20 = .ok (.invokevirtual 61, 3) := by decide +kernel
theorem dX7_ends_23 : decode cX7_ends 23 = .ok (.invokevirtual 51, 3) := by decide +kernel
theorem dX7_ends_26 : decode cX7_ends 26 = .ok (.ireturn, 1) := by decide +kernel
set_option maxRecDepth 20000 in
theorem ggX7_clap_X1_setAside : GoodIn wsX7_clap wsX1_setAside := goodIn_r _ [7, 8, 9, 10, 11, 6, 12, 13, 14, 15, 16, 17, 18, 19, 20, 21, 22, 23, 24, 25, 26, 27, 28, 29, 30, 31, 32, 33, 34, 35, 36, 37, 38, 39, 40, 41, 42, 43, 44, 45, 46, 47, 48, 49, 50, 51, 52, 53, 54, 55, 56, 57, 58, 59, 60, 61, 62, 63, 64, 65, 66, 67, 68, 69, 121, 122, 123, 124, 125, 126, 127, 128, 129, 130, 131, 132, 133, 134, 135, 136, 137, 138, 139, 140, 141, 142, 143, 144, 145, 146, 147, 148, 149] (by decide +kernel) (by decide +kernel)
set_option maxRecDepth 20000 in
theorem gX7_clap_X1_setAside : GoodIn wsX7_clap (wsV RX7 43 RX1 yX1_setAside wsX1_setAside) := goodIn_app (goodIn_of _ (by decide +kernel)) ggX7_clap_X1_setAside
set_option maxRecDepth 20000 in
theorem ggX7_clap_X2_takeClap : GoodIn wsX7_clap wsX2_takeClap := goodIn_r _ [73, 27, 20, 25, 28, 19, 22, 24, 74, 37, 38, 39, 29, 75, 76, 77, 78, 79, 80, 33, 81, 35, 82, 83, 84, 47, 85, 50, 51, 53, 54, 56, 52, 86, 87, 88, 89, 90, 91, 92, 93, 94, 95, 96, 97, 98, 99, 100, 101, 102, 17, 103, 21, 104, 105, 106, 61, 107, 68, 66, 63, 64, 108, 109, 124, 125, 126, 127, 128, 129, 130, 131, 132, 133, 134, 136, 137, 138, 139, 140, 141, 142, 143, 135, 144, 145, 146, 147, 148, 149] (by decide +kernel) (by decide +kernel)
set_option maxRecDepth 20000 in
theorem gX7_clap_X2_takeClap : GoodIn wsX7_clap (wsV RX7 64 RX2 yX2_takeClap wsX2_takeClap) := goodIn_app (goodIn_of _ (by decide +kernel)) ggX7_clap_X2_takeClap
set_option maxRecDepth 20000 in
theorem ggX7_clap_X1_keepUnlessError : GoodIn wsX7_clap wsX1_keepUnlessError := goodIn_r _ [113, 8, 114, 115, 37, 38, 39, 121, 122, 123] (by decide +kernel) (by decide +kernel)
set_option maxRecDepth 20000 in
theorem gX7_clap_X1_keepUnlessError : GoodIn wsX7_clap (wsV RX7 51 RX1 yX1_keepUnlessError wsX1_keepUnlessError) := goodIn_app (goodIn_of _ (by decide +kernel)) ggX7_clap_X1_keepUnlessError
theorem dX7_clap_0 : decode cX7_clap 0 = .ok (.aload_n 0, 1) := by decide +kernel
theorem dX7_clap_1 : decode cX7_clap 1 = .ok (.getfield 19, 3) := by decide +kernel
theorem dX7_clap_4 : decode cX7_clap 4 = .ok (.aload_n 0, 1) := by decide +kernel
theorem dX7_clap_5 : decode cX7_clap 5 = .ok (.getfield 10, 3) := by decide +kernel
theorem dX7_clap_8 : decode cX7_clap 8 = .ok (.invokevirtual 43, 3) := by decide +kernel
theorem dX7_clap_11 : decode cX7_clap 11 = .ok (.aload_n 0, 1) := by decide +kernel
theorem dX7_clap_12 : decode cX7_clap 12 = .ok (.getfield 19, 3) := by decide +kernel
theorem dX7_clap_15 : decode cX7_clap 15 = .ok (.aload_n 0, 1) := by decide +kernel
theorem dX7_clap_16 : decode cX7_clap 16 = .ok (.getfield 10, 3) := by decide +kernel
theorem dX7_clap_19 : decode cX7_clap 19 = .ok (.iload_n 1, 1) := by decide +kernel
theorem dX7_clap_20 : decode cX7_clap 20 = .ok (.invokevirtual 64, 3) := by decide +kernel
theorem dX7_clap_23 : decode cX7_clap 23 = .ok (.invokevirtual 51, 3) := by decide +kernel
theorem dX7_clap_26 : decode cX7_clap 26 = .ok (.ireturn, 1) := by decide +kernel
set_option maxRecDepth 20000 in
theorem ggX7_pass_X1_setAside : GoodIn wsX7_pass wsX1_setAside := goodIn_r _ [7, 8, 9, 10, 11, 6, 12, 13, 14, 15, 16, 17, 18, 19, 20, 21, 22, 23, 24, 25, 26, 27, 28, 29, 30, 31, 32, 33, 34, 35, 36, 37, 38, 39, 40, 41, 42, 43, 44, 45, 46, 47, 48, 49, 50, 51, 52, 53, 54, 55, 56, 57, 58, 59, 60, 61, 62, 63, 64, 65, 66, 67, 68, 69, 110, 111, 112, 113, 114, 115, 116, 117, 118, 119, 120, 121, 122, 123, 124, 125, 126, 127, 128, 129, 130, 131, 132, 133, 134, 135, 136, 137, 138] (by decide +kernel) (by decide +kernel)
set_option maxRecDepth 20000 in
theorem gX7_pass_X1_setAside : GoodIn wsX7_pass (wsV RX7 43 RX1 yX1_setAside wsX1_setAside) := goodIn_app (goodIn_of _ (by decide +kernel)) ggX7_pass_X1_setAside
set_option maxRecDepth 20000 in
theorem ggX7_pass_X2_letPass : GoodIn wsX7_pass wsX2_letPass := goodIn_r _ [73, 25, 74, 24, 19, 22, 21, 75, 76, 77, 33, 78, 35, 79, 80, 81, 82, 83, 38, 84, 85, 86, 87, 61, 88, 68, 64, 66, 63, 89, 90, 91, 92, 93, 94, 95, 96, 97, 98, 113, 114, 115, 116, 117, 118, 119, 120, 121, 122, 123, 124, 133, 134, 135, 136, 137, 138] (by decide +kernel) (by decide +kernel)
set_option maxRecDepth 20000 in
theorem gX7_pass_X2_letPass : GoodIn wsX7_pass (wsV RX7 67 RX2 yX2_letPass wsX2_letPass) := goodIn_app (goodIn_of _ (by decide +kernel)) ggX7_pass_X2_letPass
set_option maxRecDepth 20000 in
theorem ggX7_pass_X1_keepUnlessError : GoodIn wsX7_pass wsX1_keepUnlessError := goodIn_r _ [102, 8, 103, 104, 37, 38, 39, 110, 111, 112] (by decide +kernel) (by decide +kernel)
set_option maxRecDepth 20000 in
theorem gX7_pass_X1_keepUnlessError : GoodIn wsX7_pass (wsV RX7 51 RX1 yX1_keepUnlessError wsX1_keepUnlessError) := goodIn_app (goodIn_of _ (by decide +kernel)) ggX7_pass_X1_keepUnlessError
theorem dX7_pass_0 : decode cX7_pass 0 = .ok (.aload_n 0, 1) := by decide +kernel
theorem dX7_pass_1 : decode cX7_pass 1 = .ok (.getfield 19, 3) := by decide +kernel
theorem dX7_pass_4 : decode cX7_pass 4 = .ok (.aload_n 0, 1) := by decide +kernel
theorem dX7_pass_5 : decode cX7_pass 5 = .ok (.getfield 10, 3) := by decide +kernel
theorem dX7_pass_8 : decode cX7_pass 8 = .ok (.invokevirtual 43, 3) := by decide +kernel
theorem dX7_pass_11 : decode cX7_pass 11 = .ok (.aload_n 0, 1) := by decide +kernel
theorem dX7_pass_12 : decode cX7_pass 12 = .ok (.getfield 19, 3) := by decide +kernel
theorem dX7_pass_15 : decode cX7_pass 15 = .ok (.aload_n 0, 1) := by decide +kernel
theorem dX7_pass_16 : decode cX7_pass 16 = .ok (.getfield 10, 3) := by decide +kernel
theorem dX7_pass_19 : decode cX7_pass 19 = .ok (.iload_n 1, 1) := by decide +kernel
theorem dX7_pass_20 : decode cX7_pass 20 = .ok (.invokevirtual 67, 3) := by decide +kernel
theorem dX7_pass_23 : decode cX7_pass 23 = .ok (.invokevirtual 51, 3) := by decide +kernel
theorem dX7_pass_26 : decode cX7_pass 26 = .ok (.ireturn, 1) := by decide +kernel
set_option maxRecDepth 20000 in
theorem ggX7_play_X1_setAside : GoodIn wsX7_play wsX1_setAside := goodIn_r _ [7, 8, 9, 10, 11, 6, 12, 13, 14, 15, 16, 17, 18, 19, 20, 21, 22, 23, 24, 25, 26, 27, 28, 29, 30, 31, 32, 33, 34, 35, 36, 37, 38, 39, 40, 41, 42, 43, 44, 45, 46, 47, 48, 49, 50, 51, 52, 53, 54, 55, 56, 57, 58, 59, 60, 61, 62, 63, 64, 65, 66, 67, 68, 69, 121, 122, 123, 124, 125, 126, 127, 128, 129, 130, 131, 132, 133, 134, 135, 136, 137, 138, 139, 140, 141, 142, 143, 144, 145, 146, 147, 148, 149] (by decide +kernel) (by decide +kernel)
set_option maxRecDepth 20000 in
theorem gX7_play_X1_setAside : GoodIn wsX7_play (wsV RX7 43 RX1 yX1_setAside wsX1_setAside) := goodIn_app (goodIn_of _ (by decide +kernel)) ggX7_play_X1_setAside
set_option maxRecDepth 20000 in
theorem ggX7_play_X2_playEncore : GoodIn wsX7_play wsX2_playEncore := goodIn_r _ [73, 21, 22, 74, 75, 76, 77, 78, 79, 61, 80, 68, 63, 64, 65, 81, 82, 83, 84, 85, 86, 87, 33, 88, 35, 89, 90, 91, 92, 93, 94, 95, 96, 97, 98, 99, 100, 17, 101, 20, 24, 27, 25, 28, 29, 102, 103, 104, 47, 105, 56, 106, 107, 108, 109, 124, 125, 126, 127, 128, 129, 130, 131, 132, 133, 134, 144, 145, 146, 147, 148, 149, 135, 136, 137, 138, 139, 140, 141, 142, 143] (by decide +kernel) (by decide +kernel)
set_option maxRecDepth 20000 in
theorem gX7_play_X2_playEncore : GoodIn wsX7_play (wsV RX7 70 RX2 yX2_playEncore wsX2_playEncore) := goodIn_app (goodIn_of _ (by decide +kernel)) ggX7_play_X2_playEncore
set_option maxRecDepth 20000 in
theorem ggX7_play_X1_keepUnlessError : GoodIn wsX7_play wsX1_keepUnlessError := goodIn_r _ [113, 8, 114, 115, 37, 38, 39, 121, 122, 123] (by decide +kernel) (by decide +kernel)
set_option maxRecDepth 20000 in
theorem gX7_play_X1_keepUnlessError : GoodIn wsX7_play (wsV RX7 51 RX1 yX1_keepUnlessError wsX1_keepUnlessError) := goodIn_app (goodIn_of _ (by decide +kernel)) ggX7_play_X1_keepUnlessError
theorem dX7_play_0 : decode cX7_play 0 = .ok (.aload_n 0, 1) := by decide +kernel
theorem dX7_play_1 : decode cX7_play 1 = .ok (.getfield 19, 3) := by decide +kernel
theorem dX7_play_4 : decode cX7_play 4 = .ok (.aload_n 0, 1) := by decide +kernel
theorem dX7_play_5 : decode cX7_play 5 = .ok (.getfield 10, 3) := by decide +kernel
theorem dX7_play_8 : decode cX7_play 8 = .ok (.invokevirtual 43, 3) := by decide +kernel
theorem dX7_play_11 : decode cX7_play 11 = .ok (.aload_n 0, 1) := by decide +kernel
theorem dX7_play_12 : decode cX7_play 12 = .ok (.getfield 19, 3) := by decide +kernel
theorem dX7_play_15 : decode cX7_play 15 = .ok (.aload_n 0, 1) := by decide +kernel
theorem dX7_play_16 : decode cX7_play 16 = .ok (.getfield 10, 3) := by decide +kernel
theorem dX7_play_19 : decode cX7_play 19 = .ok (.iload_n 1, 1) := by decide +kernel
theorem dX7_play_20 : decode cX7_play 20 = .ok (.invokevirtual 70, 3) := by decide +kernel
theorem dX7_play_23 : decode cX7_play 23 = .ok (.invokevirtual 51, 3) := by decide +kernel
theorem dX7_play_26 : decode cX7_play 26 = .ok (.ireturn, 1) := by decide +kernel
set_option maxRecDepth 20000 in
theorem ggX7_call_X1_setAside : GoodIn wsX7_call wsX1_setAside := goodIn_r _ [7, 8, 9, 10, 11, 6, 12, 13, 14, 15, 16, 17, 18, 19, 20, 21, 22, 23, 24, 25, 26, 27, 28, 29, 30, 31, 32, 33, 34, 35, 36, 37, 38, 39, 40, 41, 42, 43, 44, 45, 46, 47, 48, 49, 50, 51, 52, 53, 54, 55, 56, 57, 58, 59, 60, 61, 62, 63, 64, 65, 66, 67, 68, 69, 93, 94, 95, 96, 97, 98, 99, 100, 101, 102, 103, 104, 105, 106, 107, 108, 109, 110, 111, 112, 113, 114, 115, 116, 117, 118, 119, 120, 121] (by decide +kernel) (by decide +kernel)
set_option maxRecDepth 20000 in
theorem gX7_call_X1_setAside : GoodIn wsX7_call (wsV RX7 43 RX1 yX1_setAside wsX1_setAside) := goodIn_app (goodIn_of _ (by decide +kernel)) ggX7_call_X1_setAside
set_option maxRecDepth 20000 in
theorem ggX7_call_X2_takeCurtain : GoodIn wsX7_call wsX2_takeCurtain := goodIn_r _ [73, 24, 19, 22, 74, 75, 76, 33, 77, 35, 78, 79, 80, 81, 96, 97, 98, 99, 100, 101, 102, 103, 104, 105, 106, 107] (by decide +kernel) (by decide +kernel)
set_option maxRecDepth 20000 in
theorem gX7_call_X2_takeCurtain : GoodIn wsX7_call (wsV RX7 73 RX2 yX2_takeCurtain wsX2_takeCurtain) := goodIn_app (goodIn_of _ (by decide +kernel)) ggX7_call_X2_takeCurtain
set_option maxRecDepth 20000 in
theorem ggX7_call_X1_keepUnlessError : GoodIn wsX7_call wsX1_keepUnlessError := goodIn_r _ [85, 8, 86, 87, 37, 38, 39, 93, 94, 95] (by decide +kernel) (by decide +kernel)
set_option maxRecDepth 20000 in
theorem gX7_call_X1_keepUnlessError : GoodIn wsX7_call (wsV RX7 51 RX1 yX1_keepUnlessError wsX1_keepUnlessError) := goodIn_app (goodIn_of _ (by decide +kernel)) ggX7_call_X1_keepUnlessError
theorem dX7_call_0 : decode cX7_call 0 = .ok (.aload_n 0, 1) := by decide +kernel
theorem dX7_call_1 : decode cX7_call 1 = .ok (.getfield 19, 3) := by decide +kernel
theorem dX7_call_4 : decode cX7_call 4 = .ok (.aload_n 0, 1) := by decide +kernel
theorem dX7_call_5 : decode cX7_call 5 = .ok (.getfield 10, 3) := by decide +kernel
theorem dX7_call_8 : decode cX7_call 8 = .ok (.invokevirtual 43, 3) := by decide +kernel
theorem dX7_call_11 : decode cX7_call 11 = .ok (.aload_n 0, 1) := by decide +kernel
theorem dX7_call_12 : decode cX7_call 12 = .ok (.getfield 19, 3) := by decide +kernel
theorem dX7_call_15 : decode cX7_call 15 = .ok (.aload_n 0, 1) := by decide +kernel
theorem dX7_call_16 : decode cX7_call 16 = .ok (.getfield 10, 3) := by decide +kernel
theorem dX7_call_19 : decode cX7_call 19 = .ok (.invokevirtual 73, 3) := by decide +kernel
theorem dX7_call_22 : decode cX7_call 22 = .ok (.invokevirtual 51, 3) := by decide +kernel
theorem dX7_call_25 : decode cX7_call 25 = .ok (.ireturn, 1) := by decide +kernel
set_option maxRecDepth 20000 in
theorem ggX7_night_X1_setAside : GoodIn wsX7_night wsX1_setAside := goodIn_r _ [7, 8, 9, 10, 11, 6, 12, 13, 14, 15, 16, 17, 18, 19, 20, 21, 22, 23, 24, 25, 26, 27, 28, 29, 30, 31, 32, 33, 34, 35, 36, 37, 38, 39, 40, 41, 42, 43, 44, 45, 46, 47, 48, 49, 50, 51, 52, 53, 54, 55, 56, 57, 58, 59, 60, 61, 62, 63, 64, 65, 66, 67, 68, 69, 116, 117, 118, 119, 120, 121, 122, 123, 124, 125, 126, 127, 128, 129, 130, 131, 132, 133, 134, 135, 136, 137, 138, 139, 140, 141, 142, 143, 144] (by decide +kernel) (by decide +kernel)
set_option maxRecDepth 20000 in
theorem gX7_night_X1_setAside : GoodIn wsX7_night (wsV RX7 43 RX1 yX1_setAside wsX1_setAside) := goodIn_app (goodIn_of _ (by decide +kernel)) ggX7_night_X1_setAside
set_option maxRecDepth 20000 in
theorem ggX7_night_X2_endNight : GoodIn wsX7_night wsX2_endNight := goodIn_r _ [73, 26, 21, 25, 22, 23, 20, 24, 27, 74, 75, 76, 61, 77, 68, 64, 66, 63, 78, 79, 80, 33, 81, 35, 82, 83, 84, 85, 86, 87, 88, 89, 90, 91, 92, 17, 93, 94, 95, 96, 97, 98, 99, 100, 101, 102, 47, 103, 56, 51, 54, 104, 119, 120, 121, 122, 123, 124, 125, 126, 127, 128, 129, 139, 140, 141, 142, 143, 144, 130, 131, 132, 133, 134, 135, 136, 137, 138] (by decide +kernel) (by decide +kernel)
set_option maxRecDepth 20000 in
theorem gX7_night_X2_endNight : GoodIn wsX7_night (wsV RX7 77 RX2 yX2_endNight wsX2_endNight) := goodIn_app (goodIn_of _ (by decide +kernel)) ggX7_night_X2_endNight
set_option maxRecDepth 20000 in
theorem ggX7_night_X1_keepUnlessError : GoodIn wsX7_night wsX1_keepUnlessError := goodIn_r _ [108, 8, 109, 110, 37, 38, 39, 116, 117, 118] (by decide +kernel) (by decide +kernel)
set_option maxRecDepth 20000 in
theorem gX7_night_X1_keepUnlessError : GoodIn wsX7_night (wsV RX7 51 RX1 yX1_keepUnlessError wsX1_keepUnlessError) := goodIn_app (goodIn_of _ (by decide +kernel)) ggX7_night_X1_keepUnlessError
theorem dX7_night_0 : decode cX7_night 0 = .ok (.aload_n 0, 1) := by decide +kernel
theorem dX7_night_1 : decode cX7_night 1 = .ok (.getfield 19, 3) := by decide +kernel
theorem dX7_night_4 : decode cX7_night 4 = .ok (.aload_n 0, 1) := by decide +kernel
theorem dX7_night_5 : decode cX7_night 5 = .ok (.getfield 10, 3) := by decide +kernel
theorem dX7_night_8 : decode cX7_night 8 = .ok (.invokevirtual 43, 3) := by decide +kernel
theorem dX7_night_11 : decode cX7_night 11 = .ok (.aload_n 0, 1) := by decide +kernel
theorem dX7_night_12 : decode cX7_night 12 = .ok (.getfield 19, 3) := by decide +kernel
theorem dX7_night_15 : decode cX7_night 15 = .ok (.aload_n 0, 1) := by decide +kernel
theorem dX7_night_16 : decode cX7_night 16 = .ok (.getfield 10, 3) := by decide +kernel
theorem dX7_night_19 : decode cX7_night 19 = .ok (.invokevirtual 77, 3) := by decide +kernel
theorem dX7_night_22 : decode cX7_night 22 = .ok (.invokevirtual 51, 3) := by decide +kernel
theorem dX7_night_25 : decode cX7_night 25 = .ok (.ireturn, 1) := by decide +kernel
set_option maxRecDepth 20000 in
theorem ggX7_of_X2_aboutSeat : GoodIn wsX7_of wsX2_aboutSeat := goodIn_r _ [6, 7, 8, 9, 10, 11, 12, 13, 14, 15, 16, 17, 18, 19, 20, 21, 22, 23, 29, 30, 31, 32, 33, 34, 35, 36, 37, 38, 39, 40, 41, 42, 43, 44, 45, 46, 47, 48] (by decide +kernel) (by decide +kernel)
set_option maxRecDepth 20000 in
theorem gX7_of_X2_aboutSeat : GoodIn wsX7_of (wsV RX7 89 RX2 yX2_aboutSeat wsX2_aboutSeat) := goodIn_app (goodIn_of _ (by decide +kernel)) ggX7_of_X2_aboutSeat
theorem dX7_of_0 : decode cX7_of 0 = .ok (.aload_n 0, 1) := by decide +kernel
theorem dX7_of_1 : decode cX7_of 1 = .ok (.getfield 10, 3) := by decide +kernel
theorem dX7_of_4 : decode cX7_of 4 = .ok (.iload_n 1, 1) := by decide +kernel
theorem dX7_of_5 : decode cX7_of 5 = .ok (.iload_n 2, 1) := by decide +kernel
theorem dX7_of_6 : decode cX7_of 6 = .ok (.invokevirtual 89, 3) := by decide +kernel
theorem dX7_of_9 : decode cX7_of 9 = .ok (.ireturn, 1) := by decide +kernel
set_option maxRecDepth 20000 in
theorem ggX7_performer_X0_aboutPerformer : GoodIn wsX7_performer wsX0_aboutPerformer := goodIn_r _ [6, 7, 8, 9, 10, 11, 12, 13, 14, 15, 5, 16, 17, 18, 19, 20, 21, 22, 23, 24, 41, 42, 43, 44, 45, 46, 47] (by decide +kernel) (by decide +kernel)
set_option maxRecDepth 20000 in
theorem gX7_performer_X0_aboutPerformer : GoodIn wsX7_performer (wsV RX7 96 RX0 yX0_aboutPerformer wsX0_aboutPerformer) := goodIn_app (goodIn_of _ (by decide +kernel)) ggX7_performer_X0_aboutPerformer
theorem dX7_performer_0 : decode cX7_performer 0 = .ok (.aload_n 0, 1) := by decide +kernel
theorem dX7_performer_1 : decode cX7_performer 1 = .ok (.getfield 10, 3) := by decide +kernel
theorem dX7_performer_4 : decode cX7_performer 4 = .ok (.getfield 92, 3) := by decide +kernel
theorem dX7_performer_7 : decode cX7_performer 7 = .ok (.iload_n 1, 1) := by decide +kernel
theorem dX7_performer_8 : decode cX7_performer 8 = .ok (.iload_n 2, 1) := by decide +kernel
theorem dX7_performer_9 : decode cX7_performer 9 = .ok (.invokevirtual 96, 3) := by decide +kernel
theorem dX7_performer_12 : decode cX7_performer 12 = .ok (.ireturn, 1) := by decide +kernel
set_option maxRecDepth 20000 in
theorem ggX7_owed_X0_aboutOwed : GoodIn wsX7_owed wsX0_aboutOwed := goodIn_r _ [6, 7, 8, 9, 10, 11, 12, 13, 14, 15, 32, 33, 34, 35, 36, 37, 38] (by decide +kernel) (by decide +kernel)
set_option maxRecDepth 20000 in
theorem gX7_owed_X0_aboutOwed : GoodIn wsX7_owed (wsV RX7 105 RX0 yX0_aboutOwed wsX0_aboutOwed) := goodIn_app (goodIn_of _ (by decide +kernel)) ggX7_owed_X0_aboutOwed
theorem dX7_owed_0 : decode cX7_owed 0 = .ok (.aload_n 0, 1) := by decide +kernel
theorem dX7_owed_1 : decode cX7_owed 1 = .ok (.getfield 10, 3) := by decide +kernel
theorem dX7_owed_4 : decode cX7_owed 4 = .ok (.getfield 92, 3) := by decide +kernel
theorem dX7_owed_7 : decode cX7_owed 7 = .ok (.iload_n 1, 1) := by decide +kernel
theorem dX7_owed_8 : decode cX7_owed 8 = .ok (.iload_n 2, 1) := by decide +kernel
theorem dX7_owed_9 : decode cX7_owed 9 = .ok (.aload_n 0, 1) := by decide +kernel
theorem dX7_owed_10 : decode cX7_owed 10 = .ok (.getfield 10, 3) := by decide +kernel
theorem dX7_owed_13 : decode cX7_owed 13 = .ok (.getfield 101, 3) := by decide +kernel
theorem dX7_owed_16 : decode cX7_owed 16 = .ok (.invokevirtual 105, 3) := by decide +kernel
theorem dX7_owed_19 : decode cX7_owed 19 = .ok (.ireturn, 1) := by decide +kernel
set_option maxRecDepth 20000 in
theorem ggX7_clapper_X6_clapperAt : GoodIn wsX7_clapper wsX6_clapperAt := goodIn_r _ [6, 7, 8, 9, 10, 11, 12, 13, 14, 31, 32, 33, 34, 35, 36, 37, 38, 39] (by decide +kernel) (by decide +kernel)
set_option maxRecDepth 20000 in
theorem gX7_clapper_X6_clapperAt : GoodIn wsX7_clapper (wsV RX7 113 RX6 yX6_clapperAt wsX6_clapperAt) := goodIn_app (goodIn_of _ (by decide +kernel)) ggX7_clapper_X6_clapperAt
theorem dX7_clapper_0 : decode cX7_clapper 0 = .ok (.aload_n 0, 1) := by decide +kernel
theorem dX7_clapper_1 : decode cX7_clapper 1 = .ok (.getfield 10, 3) := by decide +kernel
theorem dX7_clapper_4 : decode cX7_clapper 4 = .ok (.getfield 109, 3) := by decide +kernel
theorem dX7_clapper_7 : decode cX7_clapper 7 = .ok (.iload_n 1, 1) := by decide +kernel
theorem dX7_clapper_8 : decode cX7_clapper 8 = .ok (.invokevirtual 113, 3) := by decide +kernel
theorem dX7_clapper_11 : decode cX7_clapper 11 = .ok (.ireturn, 1) := by decide +kernel
set_option maxRecDepth 20000 in
theorem ggX7_record_X2_recordOf : GoodIn wsX7_record wsX2_recordOf := goodIn_r _ [6, 7, 8, 9, 10, 11, 12, 13, 14, 5, 15, 16, 17, 18, 19, 20, 21, 27, 28, 29, 30, 31, 32, 33, 34, 35, 36, 37, 38] (by decide +kernel) (by decide +kernel)
set_option maxRecDepth 20000 in
theorem gX7_record_X2_recordOf : GoodIn wsX7_record (wsV RX7 118 RX2 yX2_recordOf wsX2_recordOf) := goodIn_app (goodIn_of _ (by decide +kernel)) ggX7_record_X2_recordOf
theorem dX7_record_0 : decode cX7_record 0 = .ok (.aload_n 0, 1) := by decide +kernel
theorem dX7_record_1 : decode cX7_record 1 = .ok (.getfield 10, 3) := by decide +kernel
theorem dX7_record_4 : decode cX7_record 4 = .ok (.iload_n 1, 1) := by decide +kernel
theorem dX7_record_5 : decode cX7_record 5 = .ok (.iload_n 2, 1) := by decide +kernel
theorem dX7_record_6 : decode cX7_record 6 = .ok (.invokevirtual 118, 3) := by decide +kernel
theorem dX7_record_9 : decode cX7_record 9 = .ok (.ireturn, 1) := by decide +kernel
set_option maxRecDepth 20000 in
theorem ggX7_count_X4_length : GoodIn wsX7_count wsX4_length := goodIn_r _ [8, 9, 56, 57] (by decide +kernel) (by decide +kernel)
set_option maxRecDepth 20000 in
theorem gX7_count_X4_length : GoodIn wsX7_count (wsV RX7 86 RX4 yX4_length wsX4_length) := goodIn_app (goodIn_of _ (by decide +kernel)) ggX7_count_X4_length
set_option maxRecDepth 20000 in
theorem ggX7_count_X1_kept : GoodIn wsX7_count wsX1_kept := goodIn_r _ [14, 15, 58, 59, 60] (by decide +kernel) (by decide +kernel)
set_option maxRecDepth 20000 in
theorem gX7_count_X1_kept : GoodIn wsX7_count (wsV RX7 128 RX1 yX1_kept wsX1_kept) := goodIn_app (goodIn_of _ (by decide +kernel)) ggX7_count_X1_kept
set_option maxRecDepth 20000 in
theorem ggX7_count_X2_numberOf : GoodIn wsX7_count wsX2_numberOf := goodIn_r _ [20, 21, 22, 23, 24, 25, 26, 27, 28, 29, 30, 31, 32, 33, 34, 35, 36, 37, 38, 39, 40, 41, 42, 19, 43, 44, 45, 46, 47, 48, 49, 50, 61, 62, 63, 64, 65, 66, 67, 68, 69, 70, 71, 72, 73, 74, 75, 76, 77, 78, 79, 80, 81, 82, 83, 84, 85, 86] (by decide +kernel) (by decide +kernel)
set_option maxRecDepth 20000 in
theorem gX7_count_X2_numberOf : GoodIn wsX7_count (wsV RX7 131 RX2 yX2_numberOf wsX2_numberOf) := goodIn_app (goodIn_of _ (by decide +kernel)) ggX7_count_X2_numberOf
theorem dX7_count_0 : decode cX7_count 0 = .ok (.iload_n 1, 1) := by decide +kernel
theorem dX7_count_1 : decode cX7_count 1 = .ok (.lookupswitch 43 #[(19, 27), (20, 35)], 27) := by decide +kernel
theorem dX7_count_28 : decode cX7_count 28 = .ok (.aload_n 0, 1) := by decide +kernel
theorem dX7_count_29 : decode cX7_count 29 = .ok (.getfield 30, 3) := by decide +kernel
theorem dX7_count_32 : decode cX7_count 32 = .ok (.invokevirtual 86, 3) := by decide +kernel
theorem dX7_count_35 : decode cX7_count 35 = .ok (.ireturn, 1) := by decide +kernel
theorem dX7_count_36 : decode cX7_count 36 = .ok (.aload_n 0, 1) := by decide +kernel
theorem dX7_count_37 : decode cX7_count 37 = .ok (.getfield 19, 3) := by decide +kernel
theorem dX7_count_40 : decode cX7_count 40 = .ok (.invokevirtual 128, 3) := by decide +kernel
theorem dX7_count_43 : decode cX7_count 43 = .ok (.ireturn, 1) := by decide +kernel
theorem dX7_count_44 : decode cX7_count 44 = .ok (.aload_n 0, 1) := by decide +kernel
theorem dX7_count_45 : decode cX7_count 45 = .ok (.getfield 10, 3) := by decide +kernel
theorem dX7_count_48 : decode cX7_count 48 = .ok (.iload_n 1, 1) := by decide +kernel
theorem dX7_count_49 : decode cX7_count 49 = .ok (.invokevirtual 131, 3) := by decide +kernel
theorem dX7_count_52 : decode cX7_count 52 = .ok (.ireturn, 1) := by decide +kernel
set_option maxRecDepth 20000 in
theorem ggX7_quietIn_X2_secondsUntil : GoodIn wsX7_quietIn wsX2_secondsUntil := goodIn_r _ [6, 7, 8, 9, 10, 11, 12, 13, 14, 15, 16, 17, 18, 19, 20, 21, 27, 28, 29, 30, 31, 32, 33, 34, 35, 36, 37, 38] (by decide +kernel) (by decide +kernel)
set_option maxRecDepth 20000 in
theorem gX7_quietIn_X2_secondsUntil : GoodIn wsX7_quietIn (wsV RX7 134 RX2 yX2_secondsUntil wsX2_secondsUntil) := goodIn_app (goodIn_of _ (by decide +kernel)) ggX7_quietIn_X2_secondsUntil
theorem dX7_quietIn_0 : decode cX7_quietIn 0 = .ok (.aload_n 0, 1) := by decide +kernel
theorem dX7_quietIn_1 : decode cX7_quietIn 1 = .ok (.getfield 10, 3) := by decide +kernel
theorem dX7_quietIn_4 : decode cX7_quietIn 4 = .ok (.iload_n 1, 1) := by decide +kernel
theorem dX7_quietIn_5 : decode cX7_quietIn 5 = .ok (.invokevirtual 134, 3) := by decide +kernel
theorem dX7_quietIn_8 : decode cX7_quietIn 8 = .ok (.ireturn, 1) := by decide +kernel
set_option maxRecDepth 20000 in
theorem ggX7_clapsFor_X2_clapsUntilEncore : GoodIn wsX7_clapsFor wsX2_clapsUntilEncore := goodIn_r _ [6, 7, 8, 9, 10, 11, 12, 13, 14, 15, 16, 17, 18, 19, 20, 26, 27, 28, 29, 30, 31, 32, 33, 34, 35, 36, 37, 38, 39, 40, 41, 42, 43, 44, 45] (by decide +kernel) (by decide +kernel)
set_option maxRecDepth 20000 in
theorem gX7_clapsFor_X2_clapsUntilEncore : GoodIn wsX7_clapsFor (wsV RX7 137 RX2 yX2_clapsUntilEncore wsX2_clapsUntilEncore) := goodIn_app (goodIn_of _ (by decide +kernel)) ggX7_clapsFor_X2_clapsUntilEncore
theorem dX7_clapsFor_0 : decode cX7_clapsFor 0 = .ok (.aload_n 0, 1) := by decide +kernel
theorem dX7_clapsFor_1 : decode cX7_clapsFor 1 = .ok (.getfield 10, 3) := by decide +kernel
theorem dX7_clapsFor_4 : decode cX7_clapsFor 4 = .ok (.iload_n 1, 1) := by decide +kernel
theorem dX7_clapsFor_5 : decode cX7_clapsFor 5 = .ok (.invokevirtual 137, 3) := by decide +kernel
theorem dX7_clapsFor_8 : decode cX7_clapsFor 8 = .ok (.ireturn, 1) := by decide +kernel
set_option maxRecDepth 20000 in
theorem ggX7_lapsesIn_X2_secondsUntilLapse : GoodIn wsX7_lapsesIn wsX2_secondsUntilLapse := goodIn_r _ [6, 7, 8, 9, 10, 11, 12, 13, 14, 15, 16, 17, 18, 19, 20, 21, 22, 23, 24, 25, 26, 27, 28, 29, 30, 36, 37, 38, 39, 40, 41, 42, 43, 44, 45, 46, 47, 48, 49, 50, 51, 52, 53] (by decide +kernel) (by decide +kernel)
set_option maxRecDepth 20000 in
theorem gX7_lapsesIn_X2_secondsUntilLapse : GoodIn wsX7_lapsesIn (wsV RX7 140 RX2 yX2_secondsUntilLapse wsX2_secondsUntilLapse) := goodIn_app (goodIn_of _ (by decide +kernel)) ggX7_lapsesIn_X2_secondsUntilLapse
theorem dX7_lapsesIn_0 : decode cX7_lapsesIn 0 = .ok (.aload_n 0, 1) := by decide +kernel
theorem dX7_lapsesIn_1 : decode cX7_lapsesIn 1 = .ok (.getfield 10, 3) := by decide +kernel
theorem dX7_lapsesIn_4 : decode cX7_lapsesIn 4 = .ok (.iload_n 1, 1) := by decide +kernel
theorem dX7_lapsesIn_5 : decode cX7_lapsesIn 5 = .ok (.invokevirtual 140, 3) := by decide +kernel
theorem dX7_lapsesIn_8 : decode cX7_lapsesIn 8 = .ok (.ireturn, 1) := by decide +kernel
set_option maxRecDepth 20000 in
theorem ggX7_calls_X2_curtainsLeft : GoodIn wsX7_calls wsX2_curtainsLeft := goodIn_r _ [6, 7, 8, 9, 10, 11, 12, 13, 14, 20, 21, 22, 23, 24, 25, 26, 27, 28, 29, 30, 31] (by decide +kernel) (by decide +kernel)
set_option maxRecDepth 20000 in
theorem gX7_calls_X2_curtainsLeft : GoodIn wsX7_calls (wsV RX7 143 RX2 yX2_curtainsLeft wsX2_curtainsLeft) := goodIn_app (goodIn_of _ (by decide +kernel)) ggX7_calls_X2_curtainsLeft
theorem dX7_calls_0 : decode cX7_calls 0 = .ok (.aload_n 0, 1) := by decide +kernel
theorem dX7_calls_1 : decode cX7_calls 1 = .ok (.getfield 10, 3) := by decide +kernel
theorem dX7_calls_4 : decode cX7_calls 4 = .ok (.invokevirtual 143, 3) := by decide +kernel
theorem dX7_calls_7 : decode cX7_calls 7 = .ok (.ireturn, 1) := by decide +kernel
set_option maxRecDepth 20000 in
theorem ggX7_ifFound_X6_suspected : GoodIn wsX7_ifFound wsX6_suspected := goodIn_r _ [8, 9, 10, 11, 12, 13, 14, 15, 32, 33, 34, 35, 36, 37, 38, 39, 40] (by decide +kernel) (by decide +kernel)
set_option maxRecDepth 20000 in
theorem gX7_ifFound_X6_suspected : GoodIn wsX7_ifFound (wsV RX7 153 RX6 yX6_suspected wsX6_suspected) := goodIn_app (goodIn_of _ (by decide +kernel)) ggX7_ifFound_X6_suspected
theorem dX7_ifFound_0 : decode cX7_ifFound 0 = .ok (.iload_n 1, 1) := by decide +kernel
theorem dX7_ifFound_1 : decode cX7_ifFound 1 = .ok (.getstatic 146, 3) := by decide +kernel
theorem dX7_ifFound_4 : decode cX7_ifFound 4 = .ok (.iconst 4, 1) := by decide +kernel
theorem dX7_ifFound_5 : decode cX7_ifFound 5 = .ok (.iaload, 1) := by decide +kernel
theorem dX7_ifFound_6 : decode cX7_ifFound 6 = .ok (.if_icmp .lt 12, 3) := by decide +kernel
theorem dX7_ifFound_9 : decode cX7_ifFound 9 = .ok (.iload_n 1, 1) := by decide +kernel
theorem dX7_ifFound_10 : decode cX7_ifFound 10 = .ok (.getstatic 150, 3) := by decide +kernel
theorem dX7_ifFound_13 : decode cX7_ifFound 13 = .ok (.iconst 4, 1) := by decide +kernel
theorem dX7_ifFound_14 : decode cX7_ifFound 14 = .ok (.iaload, 1) := by decide +kernel
theorem dX7_ifFound_15 : decode cX7_ifFound 15 = .ok (.if_icmp .le 6, 3) := by decide +kernel
theorem dX7_ifFound_18 : decode cX7_ifFound 18 = .ok (.bipush (-2), 2) := by decide +kernel
theorem dX7_ifFound_20 : decode cX7_ifFound 20 = .ok (.ireturn, 1) := by decide +kernel
theorem dX7_ifFound_21 : decode cX7_ifFound 21 = .ok (.aload_n 0, 1) := by decide +kernel
theorem dX7_ifFound_22 : decode cX7_ifFound 22 = .ok (.getfield 10, 3) := by decide +kernel
theorem dX7_ifFound_25 : decode cX7_ifFound 25 = .ok (.getfield 109, 3) := by decide +kernel
theorem dX7_ifFound_28 : decode cX7_ifFound 28 = .ok (.iload_n 1, 1) := by decide +kernel
theorem dX7_ifFound_29 : decode cX7_ifFound 29 = .ok (.invokevirtual 153, 3) := by decide +kernel
theorem dX7_ifFound_32 : decode cX7_ifFound 32 = .ok (.ireturn, 1) := by decide +kernel
set_option maxRecDepth 20000 in
theorem ggX7_undo_X1_takeBack : GoodIn wsX7_undo wsX1_takeBack := goodIn_r _ [7, 8, 9, 10, 11, 12, 6, 13, 14, 15, 16, 17, 18, 19, 20, 21, 22, 23, 24, 25, 26, 27, 28, 29, 30, 31, 32, 33, 34, 35, 36, 37, 38, 39, 40, 41, 42, 43, 44, 45, 46, 47, 48, 49, 50, 51, 52, 53, 54, 55, 56, 57, 58, 59, 60, 61, 62, 63, 64, 65, 66, 67, 68, 69, 70, 76, 77, 78, 79, 80, 81, 82, 83, 84, 85, 86, 87, 88, 89, 90, 91, 92, 93, 94, 95, 96, 97, 98, 99, 100, 101, 102, 103, 104] (by decide +kernel) (by decide +kernel)
set_option maxRecDepth 20000 in
theorem gX7_undo_X1_takeBack : GoodIn wsX7_undo (wsV RX7 167 RX1 yX1_takeBack wsX1_takeBack) := goodIn_app (goodIn_of _ (by decide +kernel)) ggX7_undo_X1_takeBack
theorem dX7_undo_0 : decode cX7_undo 0 = .ok (.aload_n 0, 1) := by decide +kernel
theorem dX7_undo_1 : decode cX7_undo 1 = .ok (.getfield 19, 3) := by decide +kernel
theorem dX7_undo_4 : decode cX7_undo 4 = .ok (.aload_n 0, 1) := by decide +kernel
theorem dX7_undo_5 : decode cX7_undo 5 = .ok (.getfield 10, 3) := by decide +kernel
theorem dX7_undo_8 : decode cX7_undo 8 = .ok (.invokevirtual 167, 3) := by decide +kernel
theorem dX7_undo_11 : decode cX7_undo 11 = .ok (.ireturn, 1) := by decide +kernel
theorem dX7_isSeat_0 : decode cX7_isSeat 0 = .ok (.iload_n 0, 1) := by decide +kernel
theorem dX7_isSeat_1 : decode cX7_isSeat 1 = .ok (.ifCond .lt 13, 3) := by decide +kernel
theorem dX7_isSeat_4 : decode cX7_isSeat 4 = .ok (.iload_n 0, 1) := by decide +kernel
theorem dX7_isSeat_5 : decode cX7_isSeat 5 = .ok (.bipush 30, 2) := by decide +kernel
theorem dX7_isSeat_7 : decode cX7_isSeat 7 = .ok (.if_icmp .ge 7, 3) := by decide +kernel
theorem dX7_isSeat_10 : decode cX7_isSeat 10 = .ok (.iconst 1, 1) := by decide +kernel
theorem dX7_isSeat_11 : decode cX7_isSeat 11 = .ok (.goto 4, 3) := by decide +kernel
theorem dX7_isSeat_14 : decode cX7_isSeat 14 = .ok (.iconst 0, 1) := by decide +kernel
theorem dX7_isSeat_15 : decode cX7_isSeat 15 = .ok (.ireturn, 1) := by decide +kernel
theorem dX7_isPerformer_0 : decode cX7_isPerformer 0 = .ok (.iload_n 0, 1) := by decide +kernel
theorem dX7_isPerformer_1 : decode cX7_isPerformer 1 = .ok (.ifCond .lt 13, 3) := by decide +kernel
theorem dX7_isPerformer_4 : decode cX7_isPerformer 4 = .ok (.iload_n 0, 1) := by decide +kernel
theorem dX7_isPerformer_5 : decode cX7_isPerformer 5 = .ok (.bipush 6, 2) := by decide +kernel
theorem dX7_isPerformer_7 : decode cX7_isPerformer 7 = .ok (.if_icmp .ge 7, 3) := by decide +kernel
theorem dX7_isPerformer_10 : decode cX7_isPerformer 10 = .ok (.iconst 1, 1) := by decide +kernel
theorem dX7_isPerformer_11 : decode cX7_isPerformer 11 = .ok (.goto 4, 3) := by decide +kernel
theorem dX7_isPerformer_14 : decode cX7_isPerformer 14 = .ok (.iconst 0, 1) := by decide +kernel
theorem dX7_isPerformer_15 : decode cX7_isPerformer 15 = .ok (.ireturn, 1) := by decide +kernel
theorem dX7_afterSecond_0 : decode cX7_afterSecond 0 = .ok (.iload_n 0, 1) := by decide +kernel
theorem dX7_afterSecond_1 : decode cX7_afterSecond 1 = .ok (.ifCond .gt 7, 3) := by decide +kernel
theorem dX7_afterSecond_4 : decode cX7_afterSecond 4 = .ok (.iconst 0, 1) := by decide +kernel
theorem dX7_afterSecond_5 : decode cX7_afterSecond 5 = .ok (.goto 15, 3) := by decide +kernel
theorem dX7_afterSecond_8 : decode cX7_afterSecond 8 = .ok (.iload_n 0, 1) := by decide +kernel
theorem dX7_afterSecond_9 : decode cX7_afterSecond 9 = .ok (.iload_n 0, 1) := by decide +kernel
theorem dX7_afterSecond_10 : decode cX7_afterSecond 10 = .ok (.iload_n 1, 1) := by decide +kernel
theorem dX7_afterSecond_11 : decode cX7_afterSecond 11 = .ok (.imul, 1) := by decide +kernel
theorem dX7_afterSecond_12 : decode cX7_afterSecond 12 = .ok (.bipush 100, 2) := by decide +kernel
theorem dX7_afterSecond_14 : decode cX7_afterSecond 14 = .ok (.idiv, 1) := by decide +kernel
theorem dX7_afterSecond_15 : decode cX7_afterSecond 15 = .ok (.iconst 1, 1) := by decide +kernel
theorem dX7_afterSecond_16 : decode cX7_afterSecond 16 = .ok (.invokestatic 176, 3) := by decide +kernel
theorem dX7_afterSecond_19 : decode cX7_afterSecond 19 = .ok (.isub, 1) := by decide +kernel
theorem dX7_afterSecond_20 : decode cX7_afterSecond 20 = .ok (.ireturn, 1) := by decide +kernel
theorem dJ9_max_7cf53_0 : decode cJ9_max_7cf53 0 = .ok (.iload_n 0, 1) := by decide +kernel
theorem dJ9_max_7cf53_1 : decode cJ9_max_7cf53 1 = .ok (.iload_n 1, 1) := by decide +kernel
theorem dJ9_max_7cf53_2 : decode cJ9_max_7cf53 2 = .ok (.if_icmp .lt 7, 3) := by decide +kernel
theorem dJ9_max_7cf53_5 : decode cJ9_max_7cf53 5 = .ok (.iload_n 0, 1) := by decide +kernel
theorem dJ9_max_7cf53_6 : decode cJ9_max_7cf53 6 = .ok (.goto 4, 3) := by decide +kernel
theorem dJ9_max_7cf53_9 : decode cJ9_max_7cf53 9 = .ok (.iload_n 1, 1) := by decide +kernel
theorem dJ9_max_7cf53_10 : decode cJ9_max_7cf53 10 = .ok (.ireturn, 1) := by decide +kernel
theorem dJ9_min_7cf53_0 : decode cJ9_min_7cf53 0 = .ok (.iload_n 0, 1) := by decide +kernel
theorem dJ9_min_7cf53_1 : decode cJ9_min_7cf53 1 = .ok (.iload_n 1, 1) := by decide +kernel
theorem dJ9_min_7cf53_2 : decode cJ9_min_7cf53 2 = .ok (.if_icmp .gt 7, 3) := by decide +kernel
theorem dJ9_min_7cf53_5 : decode cJ9_min_7cf53 5 = .ok (.iload_n 0, 1) := by decide +kernel
theorem dJ9_min_7cf53_6 : decode cJ9_min_7cf53 6 = .ok (.goto 4, 3) := by decide +kernel
theorem dJ9_min_7cf53_9 : decode cJ9_min_7cf53 9 = .ok (.iload_n 1, 1) := by decide +kernel
theorem dJ9_min_7cf53_10 : decode cJ9_min_7cf53 10 = .ok (.ireturn, 1) := by decide +kernel
