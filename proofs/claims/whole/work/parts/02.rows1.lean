theorem dX0_init_0 : decode cX0_init 0 = .ok (.aload_n 0, 1) := by decide +kernel
theorem dX0_init_1 : decode cX0_init 1 = .ok (.invokespecial 3, 3) := by decide +kernel
theorem dX0_init_4 : decode cX0_init 4 = .ok (.aload_n 0, 1) := by decide +kernel
theorem dX0_init_5 : decode cX0_init 5 = .ok (.iconst 0, 1) := by decide +kernel
theorem dX0_init_6 : decode cX0_init 6 = .ok (.putfield 9, 3) := by decide +kernel
theorem dX0_init_9 : decode cX0_init 9 = .ok (.aload_n 0, 1) := by decide +kernel
theorem dX0_init_10 : decode cX0_init 10 = .ok (.iconst 0, 1) := by decide +kernel
theorem dX0_init_11 : decode cX0_init 11 = .ok (.putfield 15, 3) := by decide +kernel
theorem dX0_init_14 : decode cX0_init 14 = .ok (.aload_n 0, 1) := by decide +kernel
theorem dX0_init_15 : decode cX0_init 15 = .ok (.iconst 0, 1) := by decide +kernel
theorem dX0_init_16 : decode cX0_init 16 = .ok (.putfield 18, 3) := by decide +kernel
theorem dX0_init_19 : decode cX0_init 19 = .ok (.aload_n 0, 1) := by decide +kernel
theorem dX0_init_20 : decode cX0_init 20 = .ok (.iconst 0, 1) := by decide +kernel
theorem dX0_init_21 : decode cX0_init 21 = .ok (.putfield 21, 3) := by decide +kernel
theorem dX0_init_24 : decode cX0_init 24 = .ok (.aload_n 0, 1) := by decide +kernel
theorem dX0_init_25 : decode cX0_init 25 = .ok (.iconst 0, 1) := by decide +kernel
theorem dX0_init_26 : decode cX0_init 26 = .ok (.putfield 24, 3) := by decide +kernel
theorem dX0_init_29 : decode cX0_init 29 = .ok (.aload_n 0, 1) := by decide +kernel
theorem dX0_init_30 : decode cX0_init 30 = .ok (.iconst 0, 1) := by decide +kernel
theorem dX0_init_31 : decode cX0_init 31 = .ok (.putfield 27, 3) := by decide +kernel
theorem dX0_init_34 : decode cX0_init 34 = .ok (.return_, 1) := by decide +kernel
set_option maxRecDepth 20000 in
theorem ggX0_takeBack_X0_takeBackHearing : GoodIn wsX0_takeBack wsX0_takeBackHearing := goodIn_r _ [13, 14, 15, 2, 4, 16, 5, 17, 18, 6, 7, 19, 37, 38, 39, 40, 41, 42, 43, 44, 45, 46, 47, 48, 49, 50, 31, 32, 33, 34, 35, 36] (by decide +kernel) (by decide +kernel)
set_option maxRecDepth 20000 in
theorem gX0_takeBack_X0_takeBackHearing : GoodIn wsX0_takeBack (wsV RX0 30 RX0 yX0_takeBackHearing wsX0_takeBackHearing) := goodIn_app (goodIn_of _ (by decide +kernel)) ggX0_takeBack_X0_takeBackHearing
set_option maxRecDepth 20000 in
theorem ggX0_takeBack_X1_exchange : GoodIn wsX0_takeBack wsX1_exchange := goodIn_r _ [24, 25, 26, 27, 28, 29, 23, 30, 37, 38, 39, 40, 41, 42, 43, 44, 45, 46, 47, 48, 49, 50] (by decide +kernel) (by decide +kernel)
set_option maxRecDepth 20000 in
theorem gX0_takeBack_X1_exchange : GoodIn wsX0_takeBack (wsV RX0 34 RX1 yX1_exchange wsX1_exchange) := goodIn_app (goodIn_of _ (by decide +kernel)) ggX0_takeBack_X1_exchange
theorem dX0_takeBack_0 : decode cX0_takeBack 0 = .ok (.aload_n 0, 1) := by decide +kernel
theorem dX0_takeBack_1 : decode cX0_takeBack 1 = .ok (.getfield 9, 3) := by decide +kernel
theorem dX0_takeBack_4 : decode cX0_takeBack 4 = .ok (.tableswitch 82 0 3 #[32, 40, 55, 71], 32) := by decide +kernel
theorem dX0_takeBack_36 : decode cX0_takeBack 36 = .ok (.aload_n 0, 1) := by decide +kernel
theorem dX0_takeBack_37 : decode cX0_takeBack 37 = .ok (.aload_n 1, 1) := by decide +kernel
theorem dX0_takeBack_38 : decode cX0_takeBack 38 = .ok (.invokevirtual 30, 3) := by decide +kernel
theorem dX0_takeBack_41 : decode cX0_takeBack 41 = .ok (.goto 58, 3) := by decide +kernel
theorem dX0_takeBack_44 : decode cX0_takeBack 44 = .ok (.aload_n 1, 1) := by decide +kernel
theorem dX0_takeBack_45 : decode cX0_takeBack 45 = .ok (.aload_n 0, 1) := by decide +kernel
theorem dX0_takeBack_46 : decode cX0_takeBack 46 = .ok (.getfield 15, 3) := by decide +kernel
theorem dX0_takeBack_49 : decode cX0_takeBack 49 = .ok (.aload_n 0, 1) := by decide +kernel
theorem dX0_takeBack_50 : decode cX0_takeBack 50 = .ok (.getfield 18, 3) := by decide +kernel
theorem dX0_takeBack_53 : decode cX0_takeBack 53 = .ok (.invokevirtual 34, 3) := by decide +kernel
theorem dX0_takeBack_56 : decode cX0_takeBack 56 = .ok (.goto 43, 3) := by decide +kernel
theorem dX0_takeBack_59 : decode cX0_takeBack 59 = .ok (.aload_n 1, 1) := by decide +kernel
theorem dX0_takeBack_60 : decode cX0_takeBack 60 = .ok (.getfield 40, 3) := by decide +kernel
theorem dX0_takeBack_63 : decode cX0_takeBack 63 = .ok (.aload_n 0, 1) := by decide +kernel
theorem dX0_takeBack_64 : decode cX0_takeBack 64 = .ok (.getfield 15, 3) := by decide +kernel
theorem dX0_takeBack_67 : decode cX0_takeBack 67 = .ok (.aload_n 0, 1) := by decide +kernel
theorem dX0_takeBack_68 : decode cX0_takeBack 68 = .ok (.getfield 21, 3) := by decide +kernel
theorem dX0_takeBack_71 : decode cX0_takeBack 71 = .ok (.iastore, 1) := by decide +kernel
theorem dX0_takeBack_72 : decode cX0_takeBack 72 = .ok (.goto 27, 3) := by decide +kernel
theorem dX0_takeBack_75 : decode cX0_takeBack 75 = .ok (.aload_n 1, 1) := by decide +kernel
theorem dX0_takeBack_76 : decode cX0_takeBack 76 = .ok (.aload_n 0, 1) := by decide +kernel
theorem dX0_takeBack_77 : decode cX0_takeBack 77 = .ok (.getfield 27, 3) := by decide +kernel
theorem dX0_takeBack_80 : decode cX0_takeBack 80 = .ok (.putfield 44, 3) := by decide +kernel
theorem dX0_takeBack_83 : decode cX0_takeBack 83 = .ok (.goto 16, 3) := by decide +kernel
theorem dX0_takeBack_86 : decode cX0_takeBack 86 = .ok (.aload_n 1, 1) := by decide +kernel
theorem dX0_takeBack_87 : decode cX0_takeBack 87 = .ok (.getfield 47, 3) := by decide +kernel
theorem dX0_takeBack_90 : decode cX0_takeBack 90 = .ok (.aload_n 0, 1) := by decide +kernel
theorem dX0_takeBack_91 : decode cX0_takeBack 91 = .ok (.getfield 15, 3) := by decide +kernel
theorem dX0_takeBack_94 : decode cX0_takeBack 94 = .ok (.aload_n 0, 1) := by decide +kernel
theorem dX0_takeBack_95 : decode cX0_takeBack 95 = .ok (.getfield 21, 3) := by decide +kernel
theorem dX0_takeBack_98 : decode cX0_takeBack 98 = .ok (.iastore, 1) := by decide +kernel
theorem dX0_takeBack_99 : decode cX0_takeBack 99 = .ok (.return_, 1) := by decide +kernel
theorem dX0_takeBackHearing_0 : decode cX0_takeBackHearing 0 = .ok (.aload_n 1, 1) := by decide +kernel
theorem dX0_takeBackHearing_1 : decode cX0_takeBackHearing 1 = .ok (.getfield 50, 3) := by decide +kernel
theorem dX0_takeBackHearing_4 : decode cX0_takeBackHearing 4 = .ok (.aload_n 1, 1) := by decide +kernel
theorem dX0_takeBackHearing_5 : decode cX0_takeBackHearing 5 = .ok (.getfield 53, 3) := by decide +kernel
theorem dX0_takeBackHearing_8 : decode cX0_takeBackHearing 8 = .ok (.aload_n 0, 1) := by decide +kernel
theorem dX0_takeBackHearing_9 : decode cX0_takeBackHearing 9 = .ok (.getfield 15, 3) := by decide +kernel
theorem dX0_takeBackHearing_12 : decode cX0_takeBackHearing 12 = .ok (.iaload, 1) := by decide +kernel
theorem dX0_takeBackHearing_13 : decode cX0_takeBackHearing 13 = .ok (.dup2, 1) := by decide +kernel
theorem dX0_takeBackHearing_14 : decode cX0_takeBackHearing 14 = .ok (.iaload, 1) := by decide +kernel
theorem dX0_takeBackHearing_15 : decode cX0_takeBackHearing 15 = .ok (.iconst 1, 1) := by decide +kernel
theorem dX0_takeBackHearing_16 : decode cX0_takeBackHearing 16 = .ok (.isub, 1) := by decide +kernel
theorem dX0_takeBackHearing_17 : decode cX0_takeBackHearing 17 = .ok (.iastore, 1) := by decide +kernel
theorem dX0_takeBackHearing_18 : decode cX0_takeBackHearing 18 = .ok (.aload_n 1, 1) := by decide +kernel
theorem dX0_takeBackHearing_19 : decode cX0_takeBackHearing 19 = .ok (.getfield 53, 3) := by decide +kernel
theorem dX0_takeBackHearing_22 : decode cX0_takeBackHearing 22 = .ok (.aload_n 0, 1) := by decide +kernel
theorem dX0_takeBackHearing_23 : decode cX0_takeBackHearing 23 = .ok (.getfield 15, 3) := by decide +kernel
theorem dX0_takeBackHearing_26 : decode cX0_takeBackHearing 26 = .ok (.bipush (-4), 2) := by decide +kernel
theorem dX0_takeBackHearing_28 : decode cX0_takeBackHearing 28 = .ok (.iastore, 1) := by decide +kernel
theorem dX0_takeBackHearing_29 : decode cX0_takeBackHearing 29 = .ok (.aload_n 1, 1) := by decide +kernel
theorem dX0_takeBackHearing_30 : decode cX0_takeBackHearing 30 = .ok (.getfield 40, 3) := by decide +kernel
theorem dX0_takeBackHearing_33 : decode cX0_takeBackHearing 33 = .ok (.aload_n 1, 1) := by decide +kernel
theorem dX0_takeBackHearing_34 : decode cX0_takeBackHearing 34 = .ok (.getfield 56, 3) := by decide +kernel
theorem dX0_takeBackHearing_37 : decode cX0_takeBackHearing 37 = .ok (.aload_n 0, 1) := by decide +kernel
theorem dX0_takeBackHearing_38 : decode cX0_takeBackHearing 38 = .ok (.getfield 15, 3) := by decide +kernel
theorem dX0_takeBackHearing_41 : decode cX0_takeBackHearing 41 = .ok (.iaload, 1) := by decide +kernel
theorem dX0_takeBackHearing_42 : decode cX0_takeBackHearing 42 = .ok (.aload_n 0, 1) := by decide +kernel
theorem dX0_takeBackHearing_43 : decode cX0_takeBackHearing 43 = .ok (.getfield 21, 3) := by decide +kernel
theorem dX0_takeBackHearing_46 : decode cX0_takeBackHearing 46 = .ok (.iastore, 1) := by decide +kernel
theorem dX0_takeBackHearing_47 : decode cX0_takeBackHearing 47 = .ok (.aload_n 1, 1) := by decide +kernel
theorem dX0_takeBackHearing_48 : decode cX0_takeBackHearing 48 = .ok (.getfield 40, 3) := by decide +kernel
theorem dX0_takeBackHearing_51 : decode cX0_takeBackHearing 51 = .ok (.aload_n 1, 1) := by decide +kernel
theorem dX0_takeBackHearing_52 : decode cX0_takeBackHearing 52 = .ok (.getfield 59, 3) := by decide +kernel
theorem dX0_takeBackHearing_55 : decode cX0_takeBackHearing 55 = .ok (.aload_n 0, 1) := by decide +kernel
theorem dX0_takeBackHearing_56 : decode cX0_takeBackHearing 56 = .ok (.getfield 15, 3) := by decide +kernel
theorem dX0_takeBackHearing_59 : decode cX0_takeBackHearing 59 = .ok (.iaload, 1) := by decide +kernel
theorem dX0_takeBackHearing_60 : decode cX0_takeBackHearing 60 = .ok (.aload_n 0, 1) := by decide +kernel
theorem dX0_takeBackHearing_61 : decode cX0_takeBackHearing 61 = .ok (.getfield 24, 3) := by decide +kernel
theorem dX0_takeBackHearing_64 : decode cX0_takeBackHearing 64 = .ok (.iastore, 1) := by decide +kernel
theorem dX0_takeBackHearing_65 : decode cX0_takeBackHearing 65 = .ok (.aload_n 1, 1) := by decide +kernel
theorem dX0_takeBackHearing_66 : decode cX0_takeBackHearing 66 = .ok (.aload_n 0, 1) := by decide +kernel
theorem dX0_takeBackHearing_67 : decode cX0_takeBackHearing 67 = .ok (.getfield 27, 3) := by decide +kernel
theorem dX0_takeBackHearing_70 : decode cX0_takeBackHearing 70 = .ok (.putfield 44, 3) := by decide +kernel
theorem dX0_takeBackHearing_73 : decode cX0_takeBackHearing 73 = .ok (.aload_n 1, 1) := by decide +kernel
theorem dX0_takeBackHearing_74 : decode cX0_takeBackHearing 74 = .ok (.aload_n 0, 1) := by decide +kernel
theorem dX0_takeBackHearing_75 : decode cX0_takeBackHearing 75 = .ok (.getfield 15, 3) := by decide +kernel
theorem dX0_takeBackHearing_78 : decode cX0_takeBackHearing 78 = .ok (.putfield 62, 3) := by decide +kernel
theorem dX0_takeBackHearing_81 : decode cX0_takeBackHearing 81 = .ok (.return_, 1) := by decide +kernel
theorem dX1_init_0 : decode cX1_init 0 = .ok (.aload_n 0, 1) := by decide +kernel
theorem dX1_init_1 : decode cX1_init 1 = .ok (.invokespecial 3, 3) := by decide +kernel
theorem dX1_init_4 : decode cX1_init 4 = .ok (.aload_n 0, 1) := by decide +kernel
theorem dX1_init_5 : decode cX1_init 5 = .ok (.bipush 6, 2) := by decide +kernel
theorem dX1_init_7 : decode cX1_init 7 = .ok (.newarray .int, 2) := by decide +kernel
theorem dX1_init_9 : decode cX1_init 9 = .ok (.putfield 9, 3) := by decide +kernel
theorem dX1_init_12 : decode cX1_init 12 = .ok (.aload_n 0, 1) := by decide +kernel
theorem dX1_init_13 : decode cX1_init 13 = .ok (.bipush 6, 2) := by decide +kernel
theorem dX1_init_15 : decode cX1_init 15 = .ok (.newarray .int, 2) := by decide +kernel
theorem dX1_init_17 : decode cX1_init 17 = .ok (.putfield 15, 3) := by decide +kernel
theorem dX1_init_20 : decode cX1_init 20 = .ok (.aload_n 0, 1) := by decide +kernel
theorem dX1_init_21 : decode cX1_init 21 = .ok (.bipush 6, 2) := by decide +kernel
theorem dX1_init_23 : decode cX1_init 23 = .ok (.newarray .int, 2) := by decide +kernel
theorem dX1_init_25 : decode cX1_init 25 = .ok (.putfield 18, 3) := by decide +kernel
theorem dX1_init_28 : decode cX1_init 28 = .ok (.aload_n 0, 1) := by decide +kernel
theorem dX1_init_29 : decode cX1_init 29 = .ok (.bipush 6, 2) := by decide +kernel
theorem dX1_init_31 : decode cX1_init 31 = .ok (.newarray .int, 2) := by decide +kernel
theorem dX1_init_33 : decode cX1_init 33 = .ok (.putfield 21, 3) := by decide +kernel
theorem dX1_init_36 : decode cX1_init 36 = .ok (.aload_n 0, 1) := by decide +kernel
theorem dX1_init_37 : decode cX1_init 37 = .ok (.bipush 6, 2) := by decide +kernel
theorem dX1_init_39 : decode cX1_init 39 = .ok (.newarray .int, 2) := by decide +kernel
theorem dX1_init_41 : decode cX1_init 41 = .ok (.putfield 24, 3) := by decide +kernel
theorem dX1_init_44 : decode cX1_init 44 = .ok (.aload_n 0, 1) := by decide +kernel
theorem dX1_init_45 : decode cX1_init 45 = .ok (.bipush 12, 2) := by decide +kernel
theorem dX1_init_47 : decode cX1_init 47 = .ok (.newarray .int, 2) := by decide +kernel
theorem dX1_init_49 : decode cX1_init 49 = .ok (.putfield 27, 3) := by decide +kernel
theorem dX1_init_52 : decode cX1_init 52 = .ok (.aload_n 0, 1) := by decide +kernel
theorem dX1_init_53 : decode cX1_init 53 = .ok (.bipush 12, 2) := by decide +kernel
theorem dX1_init_55 : decode cX1_init 55 = .ok (.newarray .int, 2) := by decide +kernel
theorem dX1_init_57 : decode cX1_init 57 = .ok (.putfield 30, 3) := by decide +kernel
theorem dX1_init_60 : decode cX1_init 60 = .ok (.aload_n 0, 1) := by decide +kernel
theorem dX1_init_61 : decode cX1_init 61 = .ok (.bipush 12, 2) := by decide +kernel
theorem dX1_init_63 : decode cX1_init 63 = .ok (.newarray .int, 2) := by decide +kernel
theorem dX1_init_65 : decode cX1_init 65 = .ok (.putfield 33, 3) := by decide +kernel
theorem dX1_init_68 : decode cX1_init 68 = .ok (.aload_n 0, 1) := by decide +kernel
theorem dX1_init_69 : decode cX1_init 69 = .ok (.bipush 12, 2) := by decide +kernel
theorem dX1_init_71 : decode cX1_init 71 = .ok (.newarray .int, 2) := by decide +kernel
theorem dX1_init_73 : decode cX1_init 73 = .ok (.putfield 36, 3) := by decide +kernel
theorem dX1_init_76 : decode cX1_init 76 = .ok (.aload_n 0, 1) := by decide +kernel
theorem dX1_init_77 : decode cX1_init 77 = .ok (.iconst 0, 1) := by decide +kernel
theorem dX1_init_78 : decode cX1_init 78 = .ok (.putfield 39, 3) := by decide +kernel
theorem dX1_init_81 : decode cX1_init 81 = .ok (.aload_n 0, 1) := by decide +kernel
theorem dX1_init_82 : decode cX1_init 82 = .ok (.iconst 0, 1) := by decide +kernel
theorem dX1_init_83 : decode cX1_init 83 = .ok (.putfield 43, 3) := by decide +kernel
theorem dX1_init_86 : decode cX1_init 86 = .ok (.aload_n 0, 1) := by decide +kernel
theorem dX1_init_87 : decode cX1_init 87 = .ok (.iconst 0, 1) := by decide +kernel
theorem dX1_init_88 : decode cX1_init 88 = .ok (.putfield 46, 3) := by decide +kernel
theorem dX1_init_91 : decode cX1_init 91 = .ok (.aload_n 0, 1) := by decide +kernel
theorem dX1_init_92 : decode cX1_init 92 = .ok (.iconst 0, 1) := by decide +kernel
theorem dX1_init_93 : decode cX1_init 93 = .ok (.putfield 49, 3) := by decide +kernel
theorem dX1_init_96 : decode cX1_init 96 = .ok (.aload_n 0, 1) := by decide +kernel
theorem dX1_init_97 : decode cX1_init 97 = .ok (.bipush (-4), 2) := by decide +kernel
theorem dX1_init_99 : decode cX1_init 99 = .ok (.putfield 52, 3) := by decide +kernel
theorem dX1_init_102 : decode cX1_init 102 = .ok (.return_, 1) := by decide +kernel
theorem dX1_clear_0 : decode cX1_clear 0 = .ok (.aload_n 0, 1) := by decide +kernel
theorem dX1_clear_1 : decode cX1_clear 1 = .ok (.iconst 0, 1) := by decide +kernel
theorem dX1_clear_2 : decode cX1_clear 2 = .ok (.putfield 39, 3) := by decide +kernel
theorem dX1_clear_5 : decode cX1_clear 5 = .ok (.aload_n 0, 1) := by decide +kernel
theorem dX1_clear_6 : decode cX1_clear 6 = .ok (.iconst 0, 1) := by decide +kernel
theorem dX1_clear_7 : decode cX1_clear 7 = .ok (.putfield 43, 3) := by decide +kernel
theorem dX1_clear_10 : decode cX1_clear 10 = .ok (.aload_n 0, 1) := by decide +kernel
theorem dX1_clear_11 : decode cX1_clear 11 = .ok (.iconst 0, 1) := by decide +kernel
theorem dX1_clear_12 : decode cX1_clear 12 = .ok (.putfield 46, 3) := by decide +kernel
theorem dX1_clear_15 : decode cX1_clear 15 = .ok (.aload_n 0, 1) := by decide +kernel
theorem dX1_clear_16 : decode cX1_clear 16 = .ok (.iconst 0, 1) := by decide +kernel
theorem dX1_clear_17 : decode cX1_clear 17 = .ok (.putfield 49, 3) := by decide +kernel
theorem dX1_clear_20 : decode cX1_clear 20 = .ok (.aload_n 0, 1) := by decide +kernel
theorem dX1_clear_21 : decode cX1_clear 21 = .ok (.bipush (-4), 2) := by decide +kernel
theorem dX1_clear_23 : decode cX1_clear 23 = .ok (.putfield 52, 3) := by decide +kernel
theorem dX1_clear_26 : decode cX1_clear 26 = .ok (.return_, 1) := by decide +kernel
theorem dX1_become_0 : decode cX1_become 0 = .ok (.aload_n 1, 1) := by decide +kernel
theorem dX1_become_1 : decode cX1_become 1 = .ok (.getfield 9, 3) := by decide +kernel
theorem dX1_become_4 : decode cX1_become 4 = .ok (.iconst 0, 1) := by decide +kernel
theorem dX1_become_5 : decode cX1_become 5 = .ok (.aload_n 0, 1) := by decide +kernel
theorem dX1_become_6 : decode cX1_become 6 = .ok (.getfield 9, 3) := by decide +kernel
theorem dX1_become_9 : decode cX1_become 9 = .ok (.iconst 0, 1) := by decide +kernel
theorem dX1_become_10 : decode cX1_become 10 = .ok (.bipush 6, 2) := by decide +kernel
theorem dX1_become_12 : decode cX1_become 12 = .ok (.invokestatic 55, 3) := by decide +kernel
theorem dX1_become_15 : decode cX1_become 15 = .ok (.aload_n 1, 1) := by decide +kernel
theorem dX1_become_16 : decode cX1_become 16 = .ok (.getfield 15, 3) := by decide +kernel
theorem dX1_become_19 : decode cX1_become 19 = .ok (.iconst 0, 1) := by decide +kernel
theorem dX1_become_20 : decode cX1_become 20 = .ok (.aload_n 0, 1) := by decide +kernel
theorem dX1_become_21 : decode cX1_become 21 = .ok (.getfield 15, 3) := by decide +kernel
theorem dX1_become_24 : decode cX1_become 24 = .ok (.iconst 0, 1) := by decide +kernel
theorem dX1_become_25 : decode cX1_become 25 = .ok (.bipush 6, 2) := by decide +kernel
theorem dX1_become_27 : decode cX1_become 27 = .ok (.invokestatic 55, 3) := by decide +kernel
theorem dX1_become_30 : decode cX1_become 30 = .ok (.aload_n 1, 1) := by decide +kernel
theorem dX1_become_31 : decode cX1_become 31 = .ok (.getfield 18, 3) := by decide +kernel
theorem dX1_become_34 : decode cX1_become 34 = .ok (.iconst 0, 1) := by decide +kernel
theorem dX1_become_35 : decode cX1_become 35 = .ok (.aload_n 0, 1) := by decide +kernel
theorem dX1_become_36 : decode cX1_become 36 = .ok (.getfield 18, 3) := by decide +kernel
theorem dX1_become_39 : decode cX1_become 39 = .ok (.iconst 0, 1) := by decide +kernel
theorem dX1_become_40 : decode cX1_become 40 = .ok (.bipush 6, 2) := by decide +kernel
theorem dX1_become_42 : decode cX1_become 42 = .ok (.invokestatic 55, 3) := by decide +kernel
theorem dX1_become_45 : decode cX1_become 45 = .ok (.aload_n 1, 1) := by decide +kernel
theorem dX1_become_46 : decode cX1_become 46 = .ok (.getfield 21, 3) := by decide +kernel
theorem dX1_become_49 : decode cX1_become 49 = .ok (.iconst 0, 1) := by decide +kernel
theorem dX1_become_50 : decode cX1_become 50 = .ok (.aload_n 0, 1) := by decide +kernel
theorem dX1_become_51 : decode cX1_become 51 = .ok (.getfield 21, 3) := by decide +kernel
theorem dX1_become_54 : decode cX1_become 54 = .ok (.iconst 0, 1) := by decide +kernel
theorem dX1_become_55 : decode cX1_become 55 = .ok (.bipush 6, 2) := by decide +kernel
theorem dX1_become_57 : decode cX1_become 57 = .ok (.invokestatic 55, 3) := by decide +kernel
theorem dX1_become_60 : decode cX1_become 60 = .ok (.aload_n 1, 1) := by decide +kernel
theorem dX1_become_61 : decode cX1_become 61 = .ok (.getfield 24, 3) := by decide +kernel
theorem dX1_become_64 : decode cX1_become 64 = .ok (.iconst 0, 1) := by decide +kernel
theorem dX1_become_65 : decode cX1_become 65 = .ok (.aload_n 0, 1) := by decide +kernel
theorem dX1_become_66 : decode cX1_become 66 = .ok (.getfield 24, 3) := by decide +kernel
theorem dX1_become_69 : decode cX1_become 69 = .ok (.iconst 0, 1) := by decide +kernel
theorem dX1_become_70 : decode cX1_become 70 = .ok (.bipush 6, 2) := by decide +kernel
theorem dX1_become_72 : decode cX1_become 72 = .ok (.invokestatic 55, 3) := by decide +kernel
theorem dX1_become_75 : decode cX1_become 75 = .ok (.aload_n 1, 1) := by decide +kernel
theorem dX1_become_76 : decode cX1_become 76 = .ok (.getfield 27, 3) := by decide +kernel
theorem dX1_become_79 : decode cX1_become 79 = .ok (.iconst 0, 1) := by decide +kernel
theorem dX1_become_80 : decode cX1_become 80 = .ok (.aload_n 0, 1) := by decide +kernel
theorem dX1_become_81 : decode cX1_become 81 = .ok (.getfield 27, 3) := by decide +kernel
theorem dX1_become_84 : decode cX1_become 84 = .ok (.iconst 0, 1) := by decide +kernel
theorem dX1_become_85 : decode cX1_become 85 = .ok (.bipush 12, 2) := by decide +kernel
theorem dX1_become_87 : decode cX1_become 87 = .ok (.invokestatic 55, 3) := by decide +kernel
theorem dX1_become_90 : decode cX1_become 90 = .ok (.aload_n 1, 1) := by decide +kernel
theorem dX1_become_91 : decode cX1_become 91 = .ok (.getfield 30, 3) := by decide +kernel
theorem dX1_become_94 : decode cX1_become 94 = .ok (.iconst 0, 1) := by decide +kernel
theorem dX1_become_95 : decode cX1_become 95 = .ok (.aload_n 0, 1) := by decide +kernel
theorem dX1_become_96 : decode cX1_become 96 = .ok (.getfield 30, 3) := by decide +kernel
theorem dX1_become_99 : decode cX1_become 99 = .ok (.iconst 0, 1) := by decide +kernel
theorem dX1_become_100 : decode cX1_become 100 = .ok (.bipush 12, 2) := by decide +kernel
theorem dX1_become_102 : decode cX1_become 102 = .ok (.invokestatic 55, 3) := by decide +kernel
theorem dX1_become_105 : decode cX1_become 105 = .ok (.aload_n 1, 1) := by decide +kernel
theorem dX1_become_106 : decode cX1_become 106 = .ok (.getfield 33, 3) := by decide +kernel
theorem dX1_become_109 : decode cX1_become 109 = .ok (.iconst 0, 1) := by decide +kernel
theorem dX1_become_110 : decode cX1_become 110 = .ok (.aload_n 0, 1) := by decide +kernel
theorem dX1_become_111 : decode cX1_become 111 = .ok (.getfield 33, 3) := by decide +kernel
theorem dX1_become_114 : decode cX1_become 114 = .ok (.iconst 0, 1) := by decide +kernel
theorem dX1_become_115 : decode cX1_become 115 = .ok (.bipush 12, 2) := by decide +kernel
theorem dX1_become_117 : decode cX1_become 117 = .ok (.invokestatic 55, 3) := by decide +kernel
theorem dX1_become_120 : decode cX1_become 120 = .ok (.aload_n 1, 1) := by decide +kernel
theorem dX1_become_121 : decode cX1_become 121 = .ok (.getfield 36, 3) := by decide +kernel
theorem dX1_become_124 : decode cX1_become 124 = .ok (.iconst 0, 1) := by decide +kernel
theorem dX1_become_125 : decode cX1_become 125 = .ok (.aload_n 0, 1) := by decide +kernel
theorem dX1_become_126 : decode cX1_become 126 = .ok (.getfield 36, 3) := by decide +kernel
theorem dX1_become_129 : decode cX1_become 129 = .ok (.iconst 0, 1) := by decide +kernel
theorem dX1_become_130 : decode cX1_become 130 = .ok (.bipush 12, 2) := by decide +kernel
theorem dX1_become_132 : decode cX1_become 132 = .ok (.invokestatic 55, 3) := by decide +kernel
theorem dX1_become_135 : decode cX1_become 135 = .ok (.aload_n 0, 1) := by decide +kernel
theorem dX1_become_136 : decode cX1_become 136 = .ok (.aload_n 1, 1) := by decide +kernel
theorem dX1_become_137 : decode cX1_become 137 = .ok (.getfield 39, 3) := by decide +kernel
theorem dX1_become_140 : decode cX1_become 140 = .ok (.putfield 39, 3) := by decide +kernel
theorem dX1_become_143 : decode cX1_become 143 = .ok (.aload_n 0, 1) := by decide +kernel
theorem dX1_become_144 : decode cX1_become 144 = .ok (.aload_n 1, 1) := by decide +kernel
theorem dX1_become_145 : decode cX1_become 145 = .ok (.getfield 43, 3) := by decide +kernel
theorem dX1_become_148 : decode cX1_become 148 = .ok (.putfield 43, 3) := by decide +kernel
theorem dX1_become_151 : decode cX1_become 151 = .ok (.aload_n 0, 1) := by decide +kernel
theorem dX1_become_152 : decode cX1_become 152 = .ok (.aload_n 1, 1) := by decide +kernel
theorem dX1_become_153 : decode cX1_become 153 = .ok (.getfield 46, 3) := by decide +kernel
theorem dX1_become_156 : decode cX1_become 156 = .ok (.putfield 46, 3) := by decide +kernel
theorem dX1_become_159 : decode cX1_become 159 = .ok (.aload_n 0, 1) := by decide +kernel
theorem dX1_become_160 : decode cX1_become 160 = .ok (.aload_n 1, 1) := by decide +kernel
theorem dX1_become_161 : decode cX1_become 161 = .ok (.getfield 49, 3) := by decide +kernel
theorem dX1_become_164 : decode cX1_become 164 = .ok (.putfield 49, 3) := by decide +kernel
theorem dX1_become_167 : decode cX1_become 167 = .ok (.aload_n 0, 1) := by decide +kernel
theorem dX1_become_168 : decode cX1_become 168 = .ok (.aload_n 1, 1) := by decide +kernel
theorem dX1_become_169 : decode cX1_become 169 = .ok (.getfield 52, 3) := by decide +kernel
theorem dX1_become_172 : decode cX1_become 172 = .ok (.putfield 52, 3) := by decide +kernel
theorem dX1_become_175 : decode cX1_become 175 = .ok (.return_, 1) := by decide +kernel
theorem dX1_isThere_0 : decode cX1_isThere 0 = .ok (.aload_n 0, 1) := by decide +kernel
theorem dX1_isThere_1 : decode cX1_isThere 1 = .ok (.getfield 46, 3) := by decide +kernel
theorem dX1_isThere_4 : decode cX1_isThere 4 = .ok (.ifCond .le 7, 3) := by decide +kernel
theorem dX1_isThere_7 : decode cX1_isThere 7 = .ok (.iconst 1, 1) := by decide +kernel
theorem dX1_isThere_8 : decode cX1_isThere 8 = .ok (.goto 4, 3) := by decide +kernel
theorem dX1_isThere_11 : decode cX1_isThere 11 = .ok (.iconst 0, 1) := by decide +kernel
theorem dX1_isThere_12 : decode cX1_isThere 12 = .ok (.ireturn, 1) := by decide +kernel
theorem dX1_hasParty_0 : decode cX1_hasParty 0 = .ok (.iload_n 1, 1) := by decide +kernel
theorem dX1_hasParty_1 : decode cX1_hasParty 1 = .ok (.ifCond .lt 15, 3) := by decide +kernel
theorem dX1_hasParty_4 : decode cX1_hasParty 4 = .ok (.iload_n 1, 1) := by decide +kernel
theorem dX1_hasParty_5 : decode cX1_hasParty 5 = .ok (.aload_n 0, 1) := by decide +kernel
theorem dX1_hasParty_6 : decode cX1_hasParty 6 = .ok (.getfield 39, 3) := by decide +kernel
theorem dX1_hasParty_9 : decode cX1_hasParty 9 = .ok (.if_icmp .ge 7, 3) := by decide +kernel
theorem dX1_hasParty_12 : decode cX1_hasParty 12 = .ok (.iconst 1, 1) := by decide +kernel
theorem dX1_hasParty_13 : decode cX1_hasParty 13 = .ok (.goto 4, 3) := by decide +kernel
theorem dX1_hasParty_16 : decode cX1_hasParty 16 = .ok (.iconst 0, 1) := by decide +kernel
theorem dX1_hasParty_17 : decode cX1_hasParty 17 = .ok (.ireturn, 1) := by decide +kernel
theorem dX1_hasJudge_0 : decode cX1_hasJudge 0 = .ok (.iload_n 1, 1) := by decide +kernel
theorem dX1_hasJudge_1 : decode cX1_hasJudge 1 = .ok (.ifCond .lt 15, 3) := by decide +kernel
theorem dX1_hasJudge_4 : decode cX1_hasJudge 4 = .ok (.iload_n 1, 1) := by decide +kernel
theorem dX1_hasJudge_5 : decode cX1_hasJudge 5 = .ok (.aload_n 0, 1) := by decide +kernel
theorem dX1_hasJudge_6 : decode cX1_hasJudge 6 = .ok (.getfield 43, 3) := by decide +kernel
theorem dX1_hasJudge_9 : decode cX1_hasJudge 9 = .ok (.if_icmp .ge 7, 3) := by decide +kernel
theorem dX1_hasJudge_12 : decode cX1_hasJudge 12 = .ok (.iconst 1, 1) := by decide +kernel
theorem dX1_hasJudge_13 : decode cX1_hasJudge 13 = .ok (.goto 4, 3) := by decide +kernel
theorem dX1_hasJudge_16 : decode cX1_hasJudge 16 = .ok (.iconst 0, 1) := by decide +kernel
theorem dX1_hasJudge_17 : decode cX1_hasJudge 17 = .ok (.ireturn, 1) := by decide +kernel
theorem dX1_hasCase_0 : decode cX1_hasCase 0 = .ok (.iload_n 1, 1) := by decide +kernel
theorem dX1_hasCase_1 : decode cX1_hasCase 1 = .ok (.ifCond .lt 15, 3) := by decide +kernel
theorem dX1_hasCase_4 : decode cX1_hasCase 4 = .ok (.iload_n 1, 1) := by decide +kernel
theorem dX1_hasCase_5 : decode cX1_hasCase 5 = .ok (.aload_n 0, 1) := by decide +kernel
theorem dX1_hasCase_6 : decode cX1_hasCase 6 = .ok (.getfield 46, 3) := by decide +kernel
theorem dX1_hasCase_9 : decode cX1_hasCase 9 = .ok (.if_icmp .ge 7, 3) := by decide +kernel
theorem dX1_hasCase_12 : decode cX1_hasCase 12 = .ok (.iconst 1, 1) := by decide +kernel
theorem dX1_hasCase_13 : decode cX1_hasCase 13 = .ok (.goto 4, 3) := by decide +kernel
theorem dX1_hasCase_16 : decode cX1_hasCase 16 = .ok (.iconst 0, 1) := by decide +kernel
theorem dX1_hasCase_17 : decode cX1_hasCase 17 = .ok (.ireturn, 1) := by decide +kernel
theorem dX1_casesLeft_0 : decode cX1_casesLeft 0 = .ok (.aload_n 0, 1) := by decide +kernel
theorem dX1_casesLeft_1 : decode cX1_casesLeft 1 = .ok (.getfield 46, 3) := by decide +kernel
theorem dX1_casesLeft_4 : decode cX1_casesLeft 4 = .ok (.aload_n 0, 1) := by decide +kernel
theorem dX1_casesLeft_5 : decode cX1_casesLeft 5 = .ok (.getfield 49, 3) := by decide +kernel
theorem dX1_casesLeft_8 : decode cX1_casesLeft 8 = .ok (.isub, 1) := by decide +kernel
theorem dX1_casesLeft_9 : decode cX1_casesLeft 9 = .ok (.ireturn, 1) := by decide +kernel
theorem dX1_isOwn_0 : decode cX1_isOwn 0 = .ok (.aload_n 0, 1) := by decide +kernel
theorem dX1_isOwn_1 : decode cX1_isOwn 1 = .ok (.getfield 27, 3) := by decide +kernel
theorem dX1_isOwn_4 : decode cX1_isOwn 4 = .ok (.iload_n 2, 1) := by decide +kernel
theorem dX1_isOwn_5 : decode cX1_isOwn 5 = .ok (.iaload, 1) := by decide +kernel
theorem dX1_isOwn_6 : decode cX1_isOwn 6 = .ok (.iload_n 1, 1) := by decide +kernel
theorem dX1_isOwn_7 : decode cX1_isOwn 7 = .ok (.if_icmp .eq 13, 3) := by decide +kernel
theorem dX1_isOwn_10 : decode cX1_isOwn 10 = .ok (.aload_n 0, 1) := by decide +kernel
theorem dX1_isOwn_11 : decode cX1_isOwn 11 = .ok (.getfield 30, 3) := by decide +kernel
theorem dX1_isOwn_14 : decode cX1_isOwn 14 = .ok (.iload_n 2, 1) := by decide +kernel
theorem dX1_isOwn_15 : decode cX1_isOwn 15 = .ok (.iaload, 1) := by decide +kernel
theorem dX1_isOwn_16 : decode cX1_isOwn 16 = .ok (.iload_n 1, 1) := by decide +kernel
theorem dX1_isOwn_17 : decode cX1_isOwn 17 = .ok (.if_icmp .ne 7, 3) := by decide +kernel
theorem dX1_isOwn_20 : decode cX1_isOwn 20 = .ok (.iconst 1, 1) := by decide +kernel
theorem dX1_isOwn_21 : decode cX1_isOwn 21 = .ok (.goto 4, 3) := by decide +kernel
theorem dX1_isOwn_24 : decode cX1_isOwn 24 = .ok (.iconst 0, 1) := by decide +kernel
theorem dX1_isOwn_25 : decode cX1_isOwn 25 = .ok (.ireturn, 1) := by decide +kernel
theorem dX1_opponentOf_0 : decode cX1_opponentOf 0 = .ok (.aload_n 0, 1) := by decide +kernel
theorem dX1_opponentOf_1 : decode cX1_opponentOf 1 = .ok (.getfield 27, 3) := by decide +kernel
theorem dX1_opponentOf_4 : decode cX1_opponentOf 4 = .ok (.iload_n 2, 1) := by decide +kernel
theorem dX1_opponentOf_5 : decode cX1_opponentOf 5 = .ok (.iaload, 1) := by decide +kernel
theorem dX1_opponentOf_6 : decode cX1_opponentOf 6 = .ok (.iload_n 1, 1) := by decide +kernel
theorem dX1_opponentOf_7 : decode cX1_opponentOf 7 = .ok (.if_icmp .ne 12, 3) := by decide +kernel
theorem dX1_opponentOf_10 : decode cX1_opponentOf 10 = .ok (.aload_n 0, 1) := by decide +kernel
theorem dX1_opponentOf_11 : decode cX1_opponentOf 11 = .ok (.getfield 30, 3) := by decide +kernel
theorem dX1_opponentOf_14 : decode cX1_opponentOf 14 = .ok (.iload_n 2, 1) := by decide +kernel
theorem dX1_opponentOf_15 : decode cX1_opponentOf 15 = .ok (.iaload, 1) := by decide +kernel
theorem dX1_opponentOf_16 : decode cX1_opponentOf 16 = .ok (.goto 9, 3) := by decide +kernel
theorem dX1_opponentOf_19 : decode cX1_opponentOf 19 = .ok (.aload_n 0, 1) := by decide +kernel
theorem dX1_opponentOf_20 : decode cX1_opponentOf 20 = .ok (.getfield 27, 3) := by decide +kernel
theorem dX1_opponentOf_23 : decode cX1_opponentOf 23 = .ok (.iload_n 2, 1) := by decide +kernel
theorem dX1_opponentOf_24 : decode cX1_opponentOf 24 = .ok (.iaload, 1) := by decide +kernel
theorem dX1_opponentOf_25 : decode cX1_opponentOf 25 = .ok (.ireturn, 1) := by decide +kernel
theorem dX1_pleaBefore_0 : decode cX1_pleaBefore 0 = .ok (.aload_n 0, 1) := by decide +kernel
theorem dX1_pleaBefore_1 : decode cX1_pleaBefore 1 = .ok (.getfield 33, 3) := by decide +kernel
theorem dX1_pleaBefore_4 : decode cX1_pleaBefore 4 = .ok (.iload_n 2, 1) := by decide +kernel
theorem dX1_pleaBefore_5 : decode cX1_pleaBefore 5 = .ok (.iaload, 1) := by decide +kernel
theorem dX1_pleaBefore_6 : decode cX1_pleaBefore 6 = .ok (.istore_n 3, 1) := by decide +kernel
theorem dX1_pleaBefore_7 : decode cX1_pleaBefore 7 = .ok (.aload_n 0, 1) := by decide +kernel
theorem dX1_pleaBefore_8 : decode cX1_pleaBefore 8 = .ok (.getfield 24, 3) := by decide +kernel
theorem dX1_pleaBefore_11 : decode cX1_pleaBefore 11 = .ok (.iload_n 1, 1) := by decide +kernel
theorem dX1_pleaBefore_12 : decode cX1_pleaBefore 12 = .ok (.iaload, 1) := by decide +kernel
theorem dX1_pleaBefore_13 : decode cX1_pleaBefore 13 = .ok (.aload_n 0, 1) := by decide +kernel
theorem dX1_pleaBefore_14 : decode cX1_pleaBefore 14 = .ok (.getfield 27, 3) := by decide +kernel
theorem dX1_pleaBefore_17 : decode cX1_pleaBefore 17 = .ok (.iload_n 2, 1) := by decide +kernel
theorem dX1_pleaBefore_18 : decode cX1_pleaBefore 18 = .ok (.iaload, 1) := by decide +kernel
theorem dX1_pleaBefore_19 : decode cX1_pleaBefore 19 = .ok (.if_icmp .ne 6, 3) := by decide +kernel
theorem dX1_pleaBefore_22 : decode cX1_pleaBefore 22 = .ok (.iinc 3 2, 3) := by decide +kernel
theorem dX1_pleaBefore_25 : decode cX1_pleaBefore 25 = .ok (.aload_n 0, 1) := by decide +kernel
theorem dX1_pleaBefore_26 : decode cX1_pleaBefore 26 = .ok (.getfield 24, 3) := by decide +kernel
theorem dX1_pleaBefore_29 : decode cX1_pleaBefore 29 = .ok (.iload_n 1, 1) := by decide +kernel
theorem dX1_pleaBefore_30 : decode cX1_pleaBefore 30 = .ok (.iaload, 1) := by decide +kernel
theorem dX1_pleaBefore_31 : decode cX1_pleaBefore 31 = .ok (.aload_n 0, 1) := by decide +kernel
theorem dX1_pleaBefore_32 : decode cX1_pleaBefore 32 = .ok (.getfield 30, 3) := by decide +kernel
theorem dX1_pleaBefore_35 : decode cX1_pleaBefore 35 = .ok (.iload_n 2, 1) := by decide +kernel
theorem dX1_pleaBefore_36 : decode cX1_pleaBefore 36 = .ok (.iaload, 1) := by decide +kernel
theorem dX1_pleaBefore_37 : decode cX1_pleaBefore 37 = .ok (.if_icmp .ne 6, 3) := by decide +kernel
theorem dX1_pleaBefore_40 : decode cX1_pleaBefore 40 = .ok (.iinc 3 (-2), 3) := by decide +kernel
theorem dX1_pleaBefore_43 : decode cX1_pleaBefore 43 = .ok (.iload_n 3, 1) := by decide +kernel
theorem dX1_pleaBefore_44 : decode cX1_pleaBefore 44 = .ok (.ireturn, 1) := by decide +kernel
set_option maxRecDepth 20000 in
theorem ggX1_winnerBefore_X1_pleaBefore : GoodIn wsX1_winnerBefore wsX1_pleaBefore := goodIn_r _ [8, 9, 10, 2, 3, 11, 12, 13, 14, 15, 16, 17, 18, 19, 20, 21, 22, 23, 24] (by decide +kernel) (by decide +kernel)
set_option maxRecDepth 20000 in
theorem gX1_winnerBefore_X1_pleaBefore : GoodIn wsX1_winnerBefore (wsV RX1 61 RX1 yX1_pleaBefore wsX1_pleaBefore) := goodIn_app (goodIn_of _ (by decide +kernel)) ggX1_winnerBefore_X1_pleaBefore
theorem dX1_winnerBefore_0 : decode cX1_winnerBefore 0 = .ok (.aload_n 0, 1) := by decide +kernel
theorem dX1_winnerBefore_1 : decode cX1_winnerBefore 1 = .ok (.iload_n 1, 1) := by decide +kernel
theorem dX1_winnerBefore_2 : decode cX1_winnerBefore 2 = .ok (.iload_n 2, 1) := by decide +kernel
theorem dX1_winnerBefore_3 : decode cX1_winnerBefore 3 = .ok (.invokevirtual 61, 3) := by decide +kernel
theorem dX1_winnerBefore_6 : decode cX1_winnerBefore 6 = .ok (.aload_n 0, 1) := by decide +kernel
theorem dX1_winnerBefore_7 : decode cX1_winnerBefore 7 = .ok (.getfield 21, 3) := by decide +kernel
theorem dX1_winnerBefore_10 : decode cX1_winnerBefore 10 = .ok (.iload_n 1, 1) := by decide +kernel
theorem dX1_winnerBefore_11 : decode cX1_winnerBefore 11 = .ok (.iaload, 1) := by decide +kernel
theorem dX1_winnerBefore_12 : decode cX1_winnerBefore 12 = .ok (.if_icmp .lt 12, 3) := by decide +kernel
theorem dX1_winnerBefore_15 : decode cX1_winnerBefore 15 = .ok (.aload_n 0, 1) := by decide +kernel
theorem dX1_winnerBefore_16 : decode cX1_winnerBefore 16 = .ok (.getfield 27, 3) := by decide +kernel
theorem dX1_winnerBefore_19 : decode cX1_winnerBefore 19 = .ok (.iload_n 2, 1) := by decide +kernel
theorem dX1_winnerBefore_20 : decode cX1_winnerBefore 20 = .ok (.iaload, 1) := by decide +kernel
theorem dX1_winnerBefore_21 : decode cX1_winnerBefore 21 = .ok (.goto 9, 3) := by decide +kernel
theorem dX1_winnerBefore_24 : decode cX1_winnerBefore 24 = .ok (.aload_n 0, 1) := by decide +kernel
theorem dX1_winnerBefore_25 : decode cX1_winnerBefore 25 = .ok (.getfield 30, 3) := by decide +kernel
theorem dX1_winnerBefore_28 : decode cX1_winnerBefore 28 = .ok (.iload_n 2, 1) := by decide +kernel
theorem dX1_winnerBefore_29 : decode cX1_winnerBefore 29 = .ok (.iaload, 1) := by decide +kernel
theorem dX1_winnerBefore_30 : decode cX1_winnerBefore 30 = .ok (.ireturn, 1) := by decide +kernel
theorem dX1_justWinner_0 : decode cX1_justWinner 0 = .ok (.aload_n 0, 1) := by decide +kernel
theorem dX1_justWinner_1 : decode cX1_justWinner 1 = .ok (.getfield 33, 3) := by decide +kernel
theorem dX1_justWinner_4 : decode cX1_justWinner 4 = .ok (.iload_n 1, 1) := by decide +kernel
theorem dX1_justWinner_5 : decode cX1_justWinner 5 = .ok (.iaload, 1) := by decide +kernel
theorem dX1_justWinner_6 : decode cX1_justWinner 6 = .ok (.iconst 5, 1) := by decide +kernel
theorem dX1_justWinner_7 : decode cX1_justWinner 7 = .ok (.if_icmp .lt 12, 3) := by decide +kernel
theorem dX1_justWinner_10 : decode cX1_justWinner 10 = .ok (.aload_n 0, 1) := by decide +kernel
theorem dX1_justWinner_11 : decode cX1_justWinner 11 = .ok (.getfield 27, 3) := by decide +kernel
theorem dX1_justWinner_14 : decode cX1_justWinner 14 = .ok (.iload_n 1, 1) := by decide +kernel
theorem dX1_justWinner_15 : decode cX1_justWinner 15 = .ok (.iaload, 1) := by decide +kernel
theorem dX1_justWinner_16 : decode cX1_justWinner 16 = .ok (.goto 9, 3) := by decide +kernel
theorem dX1_justWinner_19 : decode cX1_justWinner 19 = .ok (.aload_n 0, 1) := by decide +kernel
theorem dX1_justWinner_20 : decode cX1_justWinner 20 = .ok (.getfield 30, 3) := by decide +kernel
theorem dX1_justWinner_23 : decode cX1_justWinner 23 = .ok (.iload_n 1, 1) := by decide +kernel
theorem dX1_justWinner_24 : decode cX1_justWinner 24 = .ok (.iaload, 1) := by decide +kernel
theorem dX1_justWinner_25 : decode cX1_justWinner 25 = .ok (.ireturn, 1) := by decide +kernel
set_option maxRecDepth 20000 in
theorem ggX1_namedBy_X1_namedAs : GoodIn wsX1_namedBy wsX1_namedAs := goodIn_r _ [6, 7, 8, 9, 10, 5, 11, 12, 13, 14, 15, 16, 17, 18, 19, 20, 21, 22, 23, 24, 25, 26, 27, 28, 29, 30, 31] (by decide +kernel) (by decide +kernel)
set_option maxRecDepth 20000 in
theorem gX1_namedBy_X1_namedAs : GoodIn wsX1_namedBy (wsV RX1 65 RX1 yX1_namedAs wsX1_namedAs) := goodIn_app (goodIn_of _ (by decide +kernel)) ggX1_namedBy_X1_namedAs
theorem dX1_namedBy_0 : decode cX1_namedBy 0 = .ok (.aload_n 0, 1) := by decide +kernel
theorem dX1_namedBy_1 : decode cX1_namedBy 1 = .ok (.iload_n 1, 1) := by decide +kernel
theorem dX1_namedBy_2 : decode cX1_namedBy 2 = .ok (.aload_n 0, 1) := by decide +kernel
theorem dX1_namedBy_3 : decode cX1_namedBy 3 = .ok (.getfield 9, 3) := by decide +kernel
theorem dX1_namedBy_6 : decode cX1_namedBy 6 = .ok (.iload_n 1, 1) := by decide +kernel
theorem dX1_namedBy_7 : decode cX1_namedBy 7 = .ok (.iaload, 1) := by decide +kernel
theorem dX1_namedBy_8 : decode cX1_namedBy 8 = .ok (.iload_n 2, 1) := by decide +kernel
theorem dX1_namedBy_9 : decode cX1_namedBy 9 = .ok (.invokevirtual 65, 3) := by decide +kernel
theorem dX1_namedBy_12 : decode cX1_namedBy 12 = .ok (.ireturn, 1) := by decide +kernel
set_option maxRecDepth 20000 in
theorem ggX1_namedAs_X1_likedBest : GoodIn wsX1_namedAs wsX1_likedBest := goodIn_r _ [6, 1, 7, 8, 9, 5, 10, 11, 12, 13, 14, 15, 16, 17, 18, 19, 20, 21, 22, 23, 24, 25, 26] (by decide +kernel) (by decide +kernel)
set_option maxRecDepth 20000 in
theorem gX1_namedAs_X1_likedBest : GoodIn wsX1_namedAs (wsV RX1 69 RX1 yX1_likedBest wsX1_likedBest) := goodIn_app (goodIn_of _ (by decide +kernel)) ggX1_namedAs_X1_likedBest
theorem dX1_namedAs_0 : decode cX1_namedAs 0 = .ok (.iload_n 2, 1) := by decide +kernel
theorem dX1_namedAs_1 : decode cX1_namedAs 1 = .ok (.iconst 3, 1) := by decide +kernel
theorem dX1_namedAs_2 : decode cX1_namedAs 2 = .ok (.if_icmp .eq 11, 3) := by decide +kernel
theorem dX1_namedAs_5 : decode cX1_namedAs 5 = .ok (.aload_n 0, 1) := by decide +kernel
theorem dX1_namedAs_6 : decode cX1_namedAs 6 = .ok (.getfield 43, 3) := by decide +kernel
theorem dX1_namedAs_9 : decode cX1_namedAs 9 = .ok (.iconst 2, 1) := by decide +kernel
theorem dX1_namedAs_10 : decode cX1_namedAs 10 = .ok (.if_icmp .ge 5, 3) := by decide +kernel
theorem dX1_namedAs_13 : decode cX1_namedAs 13 = .ok (.iload_n 3, 1) := by decide +kernel
theorem dX1_namedAs_14 : decode cX1_namedAs 14 = .ok (.ireturn, 1) := by decide +kernel
theorem dX1_namedAs_15 : decode cX1_namedAs 15 = .ok (.iload_n 2, 1) := by decide +kernel
theorem dX1_namedAs_16 : decode cX1_namedAs 16 = .ok (.iconst 4, 1) := by decide +kernel
theorem dX1_namedAs_17 : decode cX1_namedAs 17 = .ok (.if_icmp .ne 21, 3) := by decide +kernel
theorem dX1_namedAs_20 : decode cX1_namedAs 20 = .ok (.iload_n 3, 1) := by decide +kernel
theorem dX1_namedAs_21 : decode cX1_namedAs 21 = .ok (.iconst 1, 1) := by decide +kernel
theorem dX1_namedAs_22 : decode cX1_namedAs 22 = .ok (.iadd, 1) := by decide +kernel
theorem dX1_namedAs_23 : decode cX1_namedAs 23 = .ok (.aload_n 0, 1) := by decide +kernel
theorem dX1_namedAs_24 : decode cX1_namedAs 24 = .ok (.getfield 43, 3) := by decide +kernel
theorem dX1_namedAs_27 : decode cX1_namedAs 27 = .ok (.if_icmp .ge 9, 3) := by decide +kernel
theorem dX1_namedAs_30 : decode cX1_namedAs 30 = .ok (.iload_n 3, 1) := by decide +kernel
theorem dX1_namedAs_31 : decode cX1_namedAs 31 = .ok (.iconst 1, 1) := by decide +kernel
theorem dX1_namedAs_32 : decode cX1_namedAs 32 = .ok (.iadd, 1) := by decide +kernel
theorem dX1_namedAs_33 : decode cX1_namedAs 33 = .ok (.goto 4, 3) := by decide +kernel
theorem dX1_namedAs_36 : decode cX1_namedAs 36 = .ok (.iconst 0, 1) := by decide +kernel
theorem dX1_namedAs_37 : decode cX1_namedAs 37 = .ok (.ireturn, 1) := by decide +kernel
theorem dX1_namedAs_38 : decode cX1_namedAs 38 = .ok (.aload_n 0, 1) := by decide +kernel
theorem dX1_namedAs_39 : decode cX1_namedAs 39 = .ok (.iload_n 1, 1) := by decide +kernel
theorem dX1_namedAs_40 : decode cX1_namedAs 40 = .ok (.iload_n 2, 1) := by decide +kernel
theorem dX1_namedAs_41 : decode cX1_namedAs 41 = .ok (.iconst 1, 1) := by decide +kernel
theorem dX1_namedAs_42 : decode cX1_namedAs 42 = .ok (.iload_n 3, 1) := by decide +kernel
theorem dX1_namedAs_43 : decode cX1_namedAs 43 = .ok (.ishl, 1) := by decide +kernel
theorem dX1_namedAs_44 : decode cX1_namedAs 44 = .ok (.invokevirtual 69, 3) := by decide +kernel
theorem dX1_namedAs_47 : decode cX1_namedAs 47 = .ok (.ireturn, 1) := by decide +kernel
set_option maxRecDepth 20000 in
theorem ggX1_likedBest_X1_likingOf : GoodIn wsX1_likedBest wsX1_likingOf := goodIn_r _ [6, 7, 8, 9, 10, 11, 12, 13, 14, 15, 16, 17, 18, 19, 20, 21, 22] (by decide +kernel) (by decide +kernel)
set_option maxRecDepth 20000 in
theorem gX1_likedBest_X1_likingOf : GoodIn wsX1_likedBest (wsV RX1 72 RX1 yX1_likingOf wsX1_likingOf) := goodIn_app (goodIn_of _ (by decide +kernel)) ggX1_likedBest_X1_likingOf
theorem dX1_likedBest_0 : decode cX1_likedBest 0 = .ok (.bipush (-4), 2) := by decide +kernel
theorem dX1_likedBest_2 : decode cX1_likedBest 2 = .ok (.istore 4, 2) := by decide +kernel
theorem dX1_likedBest_4 : decode cX1_likedBest 4 = .ok (.iconst 0, 1) := by decide +kernel
theorem dX1_likedBest_5 : decode cX1_likedBest 5 = .ok (.istore 5, 2) := by decide +kernel
theorem dX1_likedBest_7 : decode cX1_likedBest 7 = .ok (.iconst 0, 1) := by decide +kernel
theorem dX1_likedBest_8 : decode cX1_likedBest 8 = .ok (.istore 6, 2) := by decide +kernel
theorem dX1_likedBest_10 : decode cX1_likedBest 10 = .ok (.iload 6, 2) := by decide +kernel
theorem dX1_likedBest_12 : decode cX1_likedBest 12 = .ok (.aload_n 0, 1) := by decide +kernel
theorem dX1_likedBest_13 : decode cX1_likedBest 13 = .ok (.getfield 43, 3) := by decide +kernel
theorem dX1_likedBest_16 : decode cX1_likedBest 16 = .ok (.if_icmp .ge 50, 3) := by decide +kernel
theorem dX1_likedBest_19 : decode cX1_likedBest 19 = .ok (.aload_n 0, 1) := by decide +kernel
theorem dX1_likedBest_20 : decode cX1_likedBest 20 = .ok (.iload_n 1, 1) := by decide +kernel
theorem dX1_likedBest_21 : decode cX1_likedBest 21 = .ok (.iload_n 2, 1) := by decide +kernel
theorem dX1_likedBest_22 : decode cX1_likedBest 22 = .ok (.iload 6, 2) := by decide +kernel
theorem dX1_likedBest_24 : decode cX1_likedBest 24 = .ok (.invokevirtual 72, 3) := by decide +kernel
theorem dX1_likedBest_27 : decode cX1_likedBest 27 = .ok (.istore 7, 2) := by decide +kernel
theorem dX1_likedBest_29 : decode cX1_likedBest 29 = .ok (.iload_n 3, 1) := by decide +kernel
theorem dX1_likedBest_30 : decode cX1_likedBest 30 = .ok (.iload 6, 2) := by decide +kernel
theorem dX1_likedBest_32 : decode cX1_likedBest 32 = .ok (.ishr, 1) := by decide +kernel
theorem dX1_likedBest_33 : decode cX1_likedBest 33 = .ok (.iconst 1, 1) := by decide +kernel
theorem dX1_likedBest_34 : decode cX1_likedBest 34 = .ok (.iand, 1) := by decide +kernel
theorem dX1_likedBest_35 : decode cX1_likedBest 35 = .ok (.ifCond .ne 25, 3) := by decide +kernel
theorem dX1_likedBest_38 : decode cX1_likedBest 38 = .ok (.iload 4, 2) := by decide +kernel
theorem dX1_likedBest_40 : decode cX1_likedBest 40 = .ok (.bipush (-4), 2) := by decide +kernel
theorem dX1_likedBest_42 : decode cX1_likedBest 42 = .ok (.if_icmp .eq 10, 3) := by decide +kernel
theorem dX1_likedBest_45 : decode cX1_likedBest 45 = .ok (.iload 7, 2) := by decide +kernel
theorem dX1_likedBest_47 : decode cX1_likedBest 47 = .ok (.iload 5, 2) := by decide +kernel
theorem dX1_likedBest_49 : decode cX1_likedBest 49 = .ok (.if_icmp .le 11, 3) := by decide +kernel
theorem dX1_likedBest_52 : decode cX1_likedBest 52 = .ok (.iload 6, 2) := by decide +kernel
theorem dX1_likedBest_54 : decode cX1_likedBest 54 = .ok (.istore 4, 2) := by decide +kernel
theorem dX1_likedBest_56 : decode cX1_likedBest 56 = .ok (.iload 7, 2) := by decide +kernel
theorem dX1_likedBest_58 : decode cX1_likedBest 58 = .ok (.istore 5, 2) := by decide +kernel
theorem dX1_likedBest_60 : decode cX1_likedBest 60 = .ok (.iinc 6 1, 3) := by decide +kernel
theorem dX1_likedBest_63 : decode cX1_likedBest 63 = .ok (.goto (-53), 3) := by decide +kernel
theorem dX1_likedBest_66 : decode cX1_likedBest 66 = .ok (.iload 4, 2) := by decide +kernel
theorem dX1_likedBest_68 : decode cX1_likedBest 68 = .ok (.ireturn, 1) := by decide +kernel
theorem dX1_likingOf_0 : decode cX1_likingOf 0 = .ok (.iload_n 2, 1) := by decide +kernel
theorem dX1_likingOf_1 : decode cX1_likingOf 1 = .ok (.tableswitch 69 2 5 #[31, 69, 66, 38], 31) := by decide +kernel
theorem dX1_likingOf_32 : decode cX1_likingOf 32 = .ok (.aload_n 0, 1) := by decide +kernel
theorem dX1_likingOf_33 : decode cX1_likingOf 33 = .ok (.getfield 21, 3) := by decide +kernel
theorem dX1_likingOf_36 : decode cX1_likingOf 36 = .ok (.iload_n 3, 1) := by decide +kernel
theorem dX1_likingOf_37 : decode cX1_likingOf 37 = .ok (.iaload, 1) := by decide +kernel
theorem dX1_likingOf_38 : decode cX1_likingOf 38 = .ok (.ireturn, 1) := by decide +kernel
theorem dX1_likingOf_39 : decode cX1_likingOf 39 = .ok (.aload_n 0, 1) := by decide +kernel
theorem dX1_likingOf_40 : decode cX1_likingOf 40 = .ok (.getfield 24, 3) := by decide +kernel
theorem dX1_likingOf_43 : decode cX1_likingOf 43 = .ok (.iload_n 3, 1) := by decide +kernel
theorem dX1_likingOf_44 : decode cX1_likingOf 44 = .ok (.iaload, 1) := by decide +kernel
theorem dX1_likingOf_45 : decode cX1_likingOf 45 = .ok (.iload_n 1, 1) := by decide +kernel
theorem dX1_likingOf_46 : decode cX1_likingOf 46 = .ok (.if_icmp .ne 14, 3) := by decide +kernel
theorem dX1_likingOf_49 : decode cX1_likingOf 49 = .ok (.aload_n 0, 1) := by decide +kernel
theorem dX1_likingOf_50 : decode cX1_likingOf 50 = .ok (.getfield 21, 3) := by decide +kernel
theorem dX1_likingOf_53 : decode cX1_likingOf 53 = .ok (.iload_n 3, 1) := by decide +kernel
theorem dX1_likingOf_54 : decode cX1_likingOf 54 = .ok (.iaload, 1) := by decide +kernel
theorem dX1_likingOf_55 : decode cX1_likingOf 55 = .ok (.iconst 5, 1) := by decide +kernel
theorem dX1_likingOf_56 : decode cX1_likingOf 56 = .ok (.iadd, 1) := by decide +kernel
theorem dX1_likingOf_57 : decode cX1_likingOf 57 = .ok (.goto 9, 3) := by decide +kernel
theorem dX1_likingOf_60 : decode cX1_likingOf 60 = .ok (.aload_n 0, 1) := by decide +kernel
theorem dX1_likingOf_61 : decode cX1_likingOf 61 = .ok (.getfield 21, 3) := by decide +kernel
theorem dX1_likingOf_64 : decode cX1_likingOf 64 = .ok (.iload_n 3, 1) := by decide +kernel
theorem dX1_likingOf_65 : decode cX1_likingOf 65 = .ok (.iaload, 1) := by decide +kernel
theorem dX1_likingOf_66 : decode cX1_likingOf 66 = .ok (.ireturn, 1) := by decide +kernel
theorem dX1_likingOf_67 : decode cX1_likingOf 67 = .ok (.iload_n 3, 1) := by decide +kernel
theorem dX1_likingOf_68 : decode cX1_likingOf 68 = .ok (.ineg, 1) := by decide +kernel
theorem dX1_likingOf_69 : decode cX1_likingOf 69 = .ok (.ireturn, 1) := by decide +kernel
theorem dX1_likingOf_70 : decode cX1_likingOf 70 = .ok (.aload_n 0, 1) := by decide +kernel
theorem dX1_likingOf_71 : decode cX1_likingOf 71 = .ok (.getfield 21, 3) := by decide +kernel
theorem dX1_likingOf_74 : decode cX1_likingOf 74 = .ok (.iload_n 3, 1) := by decide +kernel
theorem dX1_likingOf_75 : decode cX1_likingOf 75 = .ok (.iaload, 1) := by decide +kernel
theorem dX1_likingOf_76 : decode cX1_likingOf 76 = .ok (.ineg, 1) := by decide +kernel
theorem dX1_likingOf_77 : decode cX1_likingOf 77 = .ok (.ireturn, 1) := by decide +kernel
set_option maxRecDepth 20000 in
theorem ggX1_sitsAfter_X1_opponentOf : GoodIn wsX1_sitsAfter wsX1_opponentOf := goodIn_r _ [6, 7, 8, 24, 25, 26, 27, 28, 29, 30, 31, 32, 33, 34, 35, 36, 37] (by decide +kernel) (by decide +kernel)
set_option maxRecDepth 20000 in
theorem gX1_sitsAfter_X1_opponentOf : GoodIn wsX1_sitsAfter (wsV RX1 75 RX1 yX1_opponentOf wsX1_opponentOf) := goodIn_app (goodIn_of _ (by decide +kernel)) ggX1_sitsAfter_X1_opponentOf
set_option maxRecDepth 20000 in
theorem ggX1_sitsAfter_X1_namedAs : GoodIn wsX1_sitsAfter wsX1_namedAs := goodIn_r _ [12, 13, 14, 15, 16, 5, 17, 18, 19, 20, 21, 22, 23, 24, 25, 26, 27, 28, 29, 30, 31, 32, 33, 34, 35, 36, 37] (by decide +kernel) (by decide +kernel)
set_option maxRecDepth 20000 in
theorem gX1_sitsAfter_X1_namedAs : GoodIn wsX1_sitsAfter (wsV RX1 65 RX1 yX1_namedAs wsX1_namedAs) := goodIn_app (goodIn_of _ (by decide +kernel)) ggX1_sitsAfter_X1_namedAs
theorem dX1_sitsAfter_0 : decode cX1_sitsAfter 0 = .ok (.aload_n 0, 1) := by decide +kernel
theorem dX1_sitsAfter_1 : decode cX1_sitsAfter 1 = .ok (.iload_n 3, 1) := by decide +kernel
theorem dX1_sitsAfter_2 : decode cX1_sitsAfter 2 = .ok (.iload_n 2, 1) := by decide +kernel
theorem dX1_sitsAfter_3 : decode cX1_sitsAfter 3 = .ok (.invokevirtual 75, 3) := by decide +kernel
theorem dX1_sitsAfter_6 : decode cX1_sitsAfter 6 = .ok (.istore 4, 2) := by decide +kernel
theorem dX1_sitsAfter_8 : decode cX1_sitsAfter 8 = .ok (.aload_n 0, 1) := by decide +kernel
theorem dX1_sitsAfter_9 : decode cX1_sitsAfter 9 = .ok (.iload 4, 2) := by decide +kernel
theorem dX1_sitsAfter_11 : decode cX1_sitsAfter 11 = .ok (.aload_n 0, 1) := by decide +kernel
theorem dX1_sitsAfter_12 : decode cX1_sitsAfter 12 = .ok (.getfield 9, 3) := by decide +kernel
theorem dX1_sitsAfter_15 : decode cX1_sitsAfter 15 = .ok (.iload 4, 2) := by decide +kernel
theorem dX1_sitsAfter_17 : decode cX1_sitsAfter 17 = .ok (.iaload, 1) := by decide +kernel
theorem dX1_sitsAfter_18 : decode cX1_sitsAfter 18 = .ok (.iload_n 1, 1) := by decide +kernel
theorem dX1_sitsAfter_19 : decode cX1_sitsAfter 19 = .ok (.invokevirtual 65, 3) := by decide +kernel
theorem dX1_sitsAfter_22 : decode cX1_sitsAfter 22 = .ok (.ireturn, 1) := by decide +kernel
theorem dX1_hurtOf_0 : decode cX1_hurtOf 0 = .ok (.aload_n 0, 1) := by decide +kernel
theorem dX1_hurtOf_1 : decode cX1_hurtOf 1 = .ok (.getfield 9, 3) := by decide +kernel
theorem dX1_hurtOf_4 : decode cX1_hurtOf 4 = .ok (.iload_n 1, 1) := by decide +kernel
theorem dX1_hurtOf_5 : decode cX1_hurtOf 5 = .ok (.iaload, 1) := by decide +kernel
theorem dX1_hurtOf_6 : decode cX1_hurtOf 6 = .ok (.tableswitch 44 2 5 #[30, 40, 42, 34], 30) := by decide +kernel
theorem dX1_hurtOf_36 : decode cX1_hurtOf 36 = .ok (.iconst 2, 1) := by decide +kernel
theorem dX1_hurtOf_37 : decode cX1_hurtOf 37 = .ok (.iload_n 2, 1) := by decide +kernel
theorem dX1_hurtOf_38 : decode cX1_hurtOf 38 = .ok (.imul, 1) := by decide +kernel
theorem dX1_hurtOf_39 : decode cX1_hurtOf 39 = .ok (.ireturn, 1) := by decide +kernel
theorem dX1_hurtOf_40 : decode cX1_hurtOf 40 = .ok (.iconst 2, 1) := by decide +kernel
theorem dX1_hurtOf_41 : decode cX1_hurtOf 41 = .ok (.iload_n 2, 1) := by decide +kernel
theorem dX1_hurtOf_42 : decode cX1_hurtOf 42 = .ok (.imul, 1) := by decide +kernel
theorem dX1_hurtOf_43 : decode cX1_hurtOf 43 = .ok (.iconst 1, 1) := by decide +kernel
theorem dX1_hurtOf_44 : decode cX1_hurtOf 44 = .ok (.iadd, 1) := by decide +kernel
theorem dX1_hurtOf_45 : decode cX1_hurtOf 45 = .ok (.ireturn, 1) := by decide +kernel
theorem dX1_hurtOf_46 : decode cX1_hurtOf 46 = .ok (.iconst 0, 1) := by decide +kernel
theorem dX1_hurtOf_47 : decode cX1_hurtOf 47 = .ok (.ireturn, 1) := by decide +kernel
theorem dX1_hurtOf_48 : decode cX1_hurtOf 48 = .ok (.iconst 1, 1) := by decide +kernel
theorem dX1_hurtOf_49 : decode cX1_hurtOf 49 = .ok (.ireturn, 1) := by decide +kernel
theorem dX1_hurtOf_50 : decode cX1_hurtOf 50 = .ok (.iload_n 2, 1) := by decide +kernel
theorem dX1_hurtOf_51 : decode cX1_hurtOf 51 = .ok (.ireturn, 1) := by decide +kernel
set_option maxRecDepth 20000 in
theorem ggX1_settle_X1_winnerBefore : GoodIn wsX1_settle wsX1_winnerBefore := goodIn_r _ [20, 21, 3, 2, 22, 23, 24, 19, 25, 11, 26, 48, 49, 50, 51, 52, 53, 54, 55, 56, 57, 58, 59, 60, 61] (by decide +kernel) (by decide +kernel)
set_option maxRecDepth 20000 in
theorem gX1_settle_X1_winnerBefore : GoodIn wsX1_settle (wsV RX1 78 RX1 yX1_winnerBefore wsX1_winnerBefore) := goodIn_app (goodIn_of _ (by decide +kernel)) ggX1_settle_X1_winnerBefore
set_option maxRecDepth 20000 in
theorem ggX1_settle_X1_opponentOf : GoodIn wsX1_settle wsX1_opponentOf := goodIn_r _ [30, 3, 2, 48, 49, 50, 51, 52, 53, 54, 55, 56, 57, 58, 59, 60, 61] (by decide +kernel) (by decide +kernel)
set_option maxRecDepth 20000 in
theorem gX1_settle_X1_opponentOf : GoodIn wsX1_settle (wsV RX1 75 RX1 yX1_opponentOf wsX1_opponentOf) := goodIn_app (goodIn_of _ (by decide +kernel)) ggX1_settle_X1_opponentOf
set_option maxRecDepth 20000 in
theorem ggX1_settle_X1_hurtOf : GoodIn wsX1_settle wsX1_hurtOf := goodIn_r _ [34, 15, 48, 49, 50, 51, 52, 53, 54, 55, 56, 57, 58, 59, 60, 61] (by decide +kernel) (by decide +kernel)
set_option maxRecDepth 20000 in
theorem gX1_settle_X1_hurtOf : GoodIn wsX1_settle (wsV RX1 86 RX1 yX1_hurtOf wsX1_hurtOf) := goodIn_app (goodIn_of _ (by decide +kernel)) ggX1_settle_X1_hurtOf
set_option maxRecDepth 20000 in
theorem ggX1_settle_X1_namedAs : GoodIn wsX1_settle wsX1_namedAs := goodIn_r _ [38, 39, 40, 41, 42, 19, 43, 44, 45, 46, 47, 21, 26, 48, 49, 50, 51, 52, 53, 54, 55, 56, 57, 58, 59, 60, 61] (by decide +kernel) (by decide +kernel)
set_option maxRecDepth 20000 in
theorem gX1_settle_X1_namedAs : GoodIn wsX1_settle (wsV RX1 65 RX1 yX1_namedAs wsX1_namedAs) := goodIn_app (goodIn_of _ (by decide +kernel)) ggX1_settle_X1_namedAs
theorem dX1_settle_0 : decode cX1_settle 0 = .ok (.aload_n 0, 1) := by decide +kernel
theorem dX1_settle_1 : decode cX1_settle 1 = .ok (.aload_n 0, 1) := by decide +kernel
theorem dX1_settle_2 : decode cX1_settle 2 = .ok (.getfield 52, 3) := by decide +kernel
theorem dX1_settle_5 : decode cX1_settle 5 = .ok (.iload_n 1, 1) := by decide +kernel
theorem dX1_settle_6 : decode cX1_settle 6 = .ok (.invokevirtual 78, 3) := by decide +kernel
theorem dX1_settle_9 : decode cX1_settle 9 = .ok (.istore_n 3, 1) := by decide +kernel
theorem dX1_settle_10 : decode cX1_settle 10 = .ok (.iload_n 2, 1) := by decide +kernel
theorem dX1_settle_11 : decode cX1_settle 11 = .ok (.iconst 1, 1) := by decide +kernel
theorem dX1_settle_12 : decode cX1_settle 12 = .ok (.if_icmp .ne 13, 3) := by decide +kernel
theorem dX1_settle_15 : decode cX1_settle 15 = .ok (.aload_n 0, 1) := by decide +kernel
theorem dX1_settle_16 : decode cX1_settle 16 = .ok (.getfield 30, 3) := by decide +kernel
theorem dX1_settle_19 : decode cX1_settle 19 = .ok (.iload_n 1, 1) := by decide +kernel
theorem dX1_settle_20 : decode cX1_settle 20 = .ok (.iaload, 1) := by decide +kernel
theorem dX1_settle_21 : decode cX1_settle 21 = .ok (.istore_n 3, 1) := by decide +kernel
theorem dX1_settle_22 : decode cX1_settle 22 = .ok (.goto 15, 3) := by decide +kernel
theorem dX1_settle_25 : decode cX1_settle 25 = .ok (.iload_n 2, 1) := by decide +kernel
theorem dX1_settle_26 : decode cX1_settle 26 = .ok (.iconst 2, 1) := by decide +kernel
theorem dX1_settle_27 : decode cX1_settle 27 = .ok (.if_icmp .ne 10, 3) := by decide +kernel
theorem dX1_settle_30 : decode cX1_settle 30 = .ok (.aload_n 0, 1) := by decide +kernel
theorem dX1_settle_31 : decode cX1_settle 31 = .ok (.getfield 27, 3) := by decide +kernel
theorem dX1_settle_34 : decode cX1_settle 34 = .ok (.iload_n 1, 1) := by decide +kernel
theorem dX1_settle_35 : decode cX1_settle 35 = .ok (.iaload, 1) := by decide +kernel
theorem dX1_settle_36 : decode cX1_settle 36 = .ok (.istore_n 3, 1) := by decide +kernel
theorem dX1_settle_37 : decode cX1_settle 37 = .ok (.aload_n 0, 1) := by decide +kernel
theorem dX1_settle_38 : decode cX1_settle 38 = .ok (.iload_n 3, 1) := by decide +kernel
theorem dX1_settle_39 : decode cX1_settle 39 = .ok (.iload_n 1, 1) := by decide +kernel
theorem dX1_settle_40 : decode cX1_settle 40 = .ok (.invokevirtual 75, 3) := by decide +kernel
theorem dX1_settle_43 : decode cX1_settle 43 = .ok (.istore 4, 2) := by decide +kernel
theorem dX1_settle_45 : decode cX1_settle 45 = .ok (.aload_n 0, 1) := by decide +kernel
theorem dX1_settle_46 : decode cX1_settle 46 = .ok (.getfield 36, 3) := by decide +kernel
theorem dX1_settle_49 : decode cX1_settle 49 = .ok (.iload_n 1, 1) := by decide +kernel
theorem dX1_settle_50 : decode cX1_settle 50 = .ok (.iload_n 3, 1) := by decide +kernel
theorem dX1_settle_51 : decode cX1_settle 51 = .ok (.iastore, 1) := by decide +kernel
theorem dX1_settle_52 : decode cX1_settle 52 = .ok (.aload_n 0, 1) := by decide +kernel
theorem dX1_settle_53 : decode cX1_settle 53 = .ok (.getfield 18, 3) := by decide +kernel
theorem dX1_settle_56 : decode cX1_settle 56 = .ok (.iload_n 3, 1) := by decide +kernel
theorem dX1_settle_57 : decode cX1_settle 57 = .ok (.dup2, 1) := by decide +kernel
theorem dX1_settle_58 : decode cX1_settle 58 = .ok (.iaload, 1) := by decide +kernel
theorem dX1_settle_59 : decode cX1_settle 59 = .ok (.iconst 1, 1) := by decide +kernel
theorem dX1_settle_60 : decode cX1_settle 60 = .ok (.iadd, 1) := by decide +kernel
theorem dX1_settle_61 : decode cX1_settle 61 = .ok (.iastore, 1) := by decide +kernel
theorem dX1_settle_62 : decode cX1_settle 62 = .ok (.aload_n 0, 1) := by decide +kernel
theorem dX1_settle_63 : decode cX1_settle 63 = .ok (.getfield 15, 3) := by decide +kernel
theorem dX1_settle_66 : decode cX1_settle 66 = .ok (.iload_n 3, 1) := by decide +kernel
theorem dX1_settle_67 : decode cX1_settle 67 = .ok (.aload_n 0, 1) := by decide +kernel
theorem dX1_settle_68 : decode cX1_settle 68 = .ok (.getfield 15, 3) := by decide +kernel
theorem dX1_settle_71 : decode cX1_settle 71 = .ok (.iload_n 3, 1) := by decide +kernel
theorem dX1_settle_72 : decode cX1_settle 72 = .ok (.iaload, 1) := by decide +kernel
theorem dX1_settle_73 : decode cX1_settle 73 = .ok (.iconst 1, 1) := by decide +kernel
theorem dX1_settle_74 : decode cX1_settle 74 = .ok (.isub, 1) := by decide +kernel
theorem dX1_settle_75 : decode cX1_settle 75 = .ok (.iconst 0, 1) := by decide +kernel
theorem dX1_settle_76 : decode cX1_settle 76 = .ok (.invokestatic 81, 3) := by decide +kernel
theorem dX1_settle_79 : decode cX1_settle 79 = .ok (.iastore, 1) := by decide +kernel
theorem dX1_settle_80 : decode cX1_settle 80 = .ok (.aload_n 0, 1) := by decide +kernel
theorem dX1_settle_81 : decode cX1_settle 81 = .ok (.getfield 15, 3) := by decide +kernel
theorem dX1_settle_84 : decode cX1_settle 84 = .ok (.iload 4, 2) := by decide +kernel
theorem dX1_settle_86 : decode cX1_settle 86 = .ok (.aload_n 0, 1) := by decide +kernel
theorem dX1_settle_87 : decode cX1_settle 87 = .ok (.getfield 15, 3) := by decide +kernel
theorem dX1_settle_90 : decode cX1_settle 90 = .ok (.iload 4, 2) := by decide +kernel
theorem dX1_settle_92 : decode cX1_settle 92 = .ok (.iaload, 1) := by decide +kernel
theorem dX1_settle_93 : decode cX1_settle 93 = .ok (.aload_n 0, 1) := by decide +kernel
theorem dX1_settle_94 : decode cX1_settle 94 = .ok (.iload 4, 2) := by decide +kernel
theorem dX1_settle_96 : decode cX1_settle 96 = .ok (.aload_n 0, 1) := by decide +kernel
theorem dX1_settle_97 : decode cX1_settle 97 = .ok (.getfield 33, 3) := by decide +kernel
theorem dX1_settle_100 : decode cX1_settle 100 = .ok (.iload_n 1, 1) := by decide +kernel
theorem dX1_settle_101 : decode cX1_settle 101 = .ok (.iaload, 1) := by decide +kernel
theorem dX1_settle_102 : decode cX1_settle 102 = .ok (.invokevirtual 86, 3) := by decide +kernel
theorem dX1_settle_105 : decode cX1_settle 105 = .ok (.iadd, 1) := by decide +kernel
theorem dX1_settle_106 : decode cX1_settle 106 = .ok (.bipush 20, 2) := by decide +kernel
theorem dX1_settle_108 : decode cX1_settle 108 = .ok (.invokestatic 89, 3) := by decide +kernel
theorem dX1_settle_111 : decode cX1_settle 111 = .ok (.iastore, 1) := by decide +kernel
theorem dX1_settle_112 : decode cX1_settle 112 = .ok (.aload_n 0, 1) := by decide +kernel
theorem dX1_settle_113 : decode cX1_settle 113 = .ok (.aload_n 0, 1) := by decide +kernel
theorem dX1_settle_114 : decode cX1_settle 114 = .ok (.iload 4, 2) := by decide +kernel
theorem dX1_settle_116 : decode cX1_settle 116 = .ok (.aload_n 0, 1) := by decide +kernel
theorem dX1_settle_117 : decode cX1_settle 117 = .ok (.getfield 9, 3) := by decide +kernel
theorem dX1_settle_120 : decode cX1_settle 120 = .ok (.iload 4, 2) := by decide +kernel
theorem dX1_settle_122 : decode cX1_settle 122 = .ok (.iaload, 1) := by decide +kernel
theorem dX1_settle_123 : decode cX1_settle 123 = .ok (.aload_n 0, 1) := by decide +kernel
theorem dX1_settle_124 : decode cX1_settle 124 = .ok (.getfield 52, 3) := by decide +kernel
theorem dX1_settle_127 : decode cX1_settle 127 = .ok (.invokevirtual 65, 3) := by decide +kernel
theorem dX1_settle_130 : decode cX1_settle 130 = .ok (.putfield 52, 3) := by decide +kernel
theorem dX1_settle_133 : decode cX1_settle 133 = .ok (.return_, 1) := by decide +kernel
set_option maxRecDepth 20000 in
theorem ggX1_hearByDraws_X1_settle : GoodIn wsX1_hearByDraws wsX1_settle := goodIn_r _ [11, 12, 13, 14, 15, 16, 17, 18, 19, 20, 21, 22, 23, 24, 25, 26, 27, 28, 29, 10, 30, 31, 32, 33, 34, 35, 36, 37, 38, 39, 40, 41, 42, 43, 44, 45, 46, 47, 48, 49, 50, 51, 52, 53, 54, 55, 56, 57, 58, 59, 60, 61, 62, 63, 64, 65, 66, 67, 68, 69, 70, 71] (by decide +kernel) (by decide +kernel)
set_option maxRecDepth 20000 in
theorem gX1_hearByDraws_X1_settle : GoodIn wsX1_hearByDraws (wsV RX1 100 RX1 yX1_settle wsX1_settle) := goodIn_app (goodIn_of _ (by decide +kernel)) ggX1_hearByDraws_X1_settle
theorem dX1_hearByDraws_0 : decode cX1_hearByDraws 0 = .ok (.iload_n 2, 1) := by decide +kernel
theorem dX1_hearByDraws_1 : decode cX1_hearByDraws 1 = .ok (.i2l, 1) := by decide +kernel
theorem dX1_hearByDraws_2 : decode cX1_hearByDraws 2 = .ok (.lstore_n 3, 1) := by decide +kernel
theorem dX1_hearByDraws_3 : decode cX1_hearByDraws 3 = .ok (.aload_n 0, 1) := by decide +kernel
theorem dX1_hearByDraws_4 : decode cX1_hearByDraws 4 = .ok (.getfield 49, 3) := by decide +kernel
theorem dX1_hearByDraws_7 : decode cX1_hearByDraws 7 = .ok (.istore 5, 2) := by decide +kernel
theorem dX1_hearByDraws_9 : decode cX1_hearByDraws 9 = .ok (.iconst 0, 1) := by decide +kernel
theorem dX1_hearByDraws_10 : decode cX1_hearByDraws 10 = .ok (.istore 6, 2) := by decide +kernel
theorem dX1_hearByDraws_12 : decode cX1_hearByDraws 12 = .ok (.iload 6, 2) := by decide +kernel
theorem dX1_hearByDraws_14 : decode cX1_hearByDraws 14 = .ok (.iload_n 1, 1) := by decide +kernel
theorem dX1_hearByDraws_15 : decode cX1_hearByDraws 15 = .ok (.if_icmp .ge 74, 3) := by decide +kernel
theorem dX1_hearByDraws_18 : decode cX1_hearByDraws 18 = .ok (.iload 5, 2) := by decide +kernel
theorem dX1_hearByDraws_20 : decode cX1_hearByDraws 20 = .ok (.aload_n 0, 1) := by decide +kernel
theorem dX1_hearByDraws_21 : decode cX1_hearByDraws 21 = .ok (.getfield 46, 3) := by decide +kernel
theorem dX1_hearByDraws_24 : decode cX1_hearByDraws 24 = .ok (.if_icmp .lt 6, 3) := by decide +kernel
theorem dX1_hearByDraws_27 : decode cX1_hearByDraws 27 = .ok (.iconst 0, 1) := by decide +kernel
theorem dX1_hearByDraws_28 : decode cX1_hearByDraws 28 = .ok (.istore 5, 2) := by decide +kernel
theorem dX1_hearByDraws_30 : decode cX1_hearByDraws 30 = .ok (.ldc2_w 92, 3) := by decide +kernel
theorem dX1_hearByDraws_33 : decode cX1_hearByDraws 33 = .ok (.lload_n 3, 1) := by decide +kernel
theorem dX1_hearByDraws_34 : decode cX1_hearByDraws 34 = .ok (.lmul, 1) := by decide +kernel
theorem dX1_hearByDraws_35 : decode cX1_hearByDraws 35 = .ok (.ldc2_w 94, 3) := by decide +kernel
theorem dX1_hearByDraws_38 : decode cX1_hearByDraws 38 = .ok (.lrem, 1) := by decide +kernel
theorem dX1_hearByDraws_39 : decode cX1_hearByDraws 39 = .ok (.lstore_n 3, 1) := by decide +kernel
theorem dX1_hearByDraws_40 : decode cX1_hearByDraws 40 = .ok (.lload_n 3, 1) := by decide +kernel
theorem dX1_hearByDraws_41 : decode cX1_hearByDraws 41 = .ok (.ldc2_w 96, 3) := by decide +kernel
theorem dX1_hearByDraws_44 : decode cX1_hearByDraws 44 = .ok (.ldiv, 1) := by decide +kernel
theorem dX1_hearByDraws_45 : decode cX1_hearByDraws 45 = .ok (.ldc2_w 98, 3) := by decide +kernel
theorem dX1_hearByDraws_48 : decode cX1_hearByDraws 48 = .ok (.lrem, 1) := by decide +kernel
theorem dX1_hearByDraws_49 : decode cX1_hearByDraws 49 = .ok (.lstore 7, 2) := by decide +kernel
theorem dX1_hearByDraws_51 : decode cX1_hearByDraws 51 = .ok (.aload_n 0, 1) := by decide +kernel
theorem dX1_hearByDraws_52 : decode cX1_hearByDraws 52 = .ok (.iload 5, 2) := by decide +kernel
theorem dX1_hearByDraws_54 : decode cX1_hearByDraws 54 = .ok (.lload 7, 2) := by decide +kernel
theorem dX1_hearByDraws_56 : decode cX1_hearByDraws 56 = .ok (.lconst 0, 1) := by decide +kernel
theorem dX1_hearByDraws_57 : decode cX1_hearByDraws 57 = .ok (.lcmp, 1) := by decide +kernel
theorem dX1_hearByDraws_58 : decode cX1_hearByDraws 58 = .ok (.ifCond .ne 7, 3) := by decide +kernel
theorem dX1_hearByDraws_61 : decode cX1_hearByDraws 61 = .ok (.iconst 1, 1) := by decide +kernel
theorem dX1_hearByDraws_62 : decode cX1_hearByDraws 62 = .ok (.goto 15, 3) := by decide +kernel
theorem dX1_hearByDraws_65 : decode cX1_hearByDraws 65 = .ok (.lload 7, 2) := by decide +kernel
theorem dX1_hearByDraws_67 : decode cX1_hearByDraws 67 = .ok (.lconst 1, 1) := by decide +kernel
theorem dX1_hearByDraws_68 : decode cX1_hearByDraws 68 = .ok (.lcmp, 1) := by decide +kernel
theorem dX1_hearByDraws_69 : decode cX1_hearByDraws 69 = .ok (.ifCond .ne 7, 3) := by decide +kernel
theorem dX1_hearByDraws_72 : decode cX1_hearByDraws 72 = .ok (.iconst 2, 1) := by decide +kernel
theorem dX1_hearByDraws_73 : decode cX1_hearByDraws 73 = .ok (.goto 4, 3) := by decide +kernel
theorem dX1_hearByDraws_76 : decode cX1_hearByDraws 76 = .ok (.iconst 0, 1) := by decide +kernel
theorem dX1_hearByDraws_77 : decode cX1_hearByDraws 77 = .ok (.invokevirtual 100, 3) := by decide +kernel
theorem dX1_hearByDraws_80 : decode cX1_hearByDraws 80 = .ok (.iinc 5 1, 3) := by decide +kernel
theorem dX1_hearByDraws_83 : decode cX1_hearByDraws 83 = .ok (.iinc 6 1, 3) := by decide +kernel
theorem dX1_hearByDraws_86 : decode cX1_hearByDraws 86 = .ok (.goto (-74), 3) := by decide +kernel
theorem dX1_hearByDraws_89 : decode cX1_hearByDraws 89 = .ok (.return_, 1) := by decide +kernel
set_option maxRecDepth 20000 in
theorem ggX1_exchange_X1_exchangeIn : GoodIn wsX1_exchange wsX1_exchangeIn := goodIn_r _ [7] (by decide +kernel) (by decide +kernel)
set_option maxRecDepth 20000 in
theorem gX1_exchange_X1_exchangeIn : GoodIn wsX1_exchange (va_wsS RX1 104 yX1_exchangeIn wsX1_exchangeIn) := goodIn_app (goodIn_of _ (by decide +kernel)) ggX1_exchange_X1_exchangeIn
theorem dX1_exchange_0 : decode cX1_exchange 0 = .ok (.aload_n 0, 1) := by decide +kernel
theorem dX1_exchange_1 : decode cX1_exchange 1 = .ok (.getfield 27, 3) := by decide +kernel
theorem dX1_exchange_4 : decode cX1_exchange 4 = .ok (.iload_n 1, 1) := by decide +kernel
theorem dX1_exchange_5 : decode cX1_exchange 5 = .ok (.iload_n 2, 1) := by decide +kernel
theorem dX1_exchange_6 : decode cX1_exchange 6 = .ok (.invokestatic 104, 3) := by decide +kernel
theorem dX1_exchange_9 : decode cX1_exchange 9 = .ok (.aload_n 0, 1) := by decide +kernel
theorem dX1_exchange_10 : decode cX1_exchange 10 = .ok (.getfield 30, 3) := by decide +kernel
theorem dX1_exchange_13 : decode cX1_exchange 13 = .ok (.iload_n 1, 1) := by decide +kernel
theorem dX1_exchange_14 : decode cX1_exchange 14 = .ok (.iload_n 2, 1) := by decide +kernel
theorem dX1_exchange_15 : decode cX1_exchange 15 = .ok (.invokestatic 104, 3) := by decide +kernel
theorem dX1_exchange_18 : decode cX1_exchange 18 = .ok (.aload_n 0, 1) := by decide +kernel
theorem dX1_exchange_19 : decode cX1_exchange 19 = .ok (.getfield 33, 3) := by decide +kernel
theorem dX1_exchange_22 : decode cX1_exchange 22 = .ok (.iload_n 1, 1) := by decide +kernel
theorem dX1_exchange_23 : decode cX1_exchange 23 = .ok (.iload_n 2, 1) := by decide +kernel
theorem dX1_exchange_24 : decode cX1_exchange 24 = .ok (.invokestatic 104, 3) := by decide +kernel
theorem dX1_exchange_27 : decode cX1_exchange 27 = .ok (.return_, 1) := by decide +kernel
theorem dX1_exchangeIn_0 : decode cX1_exchangeIn 0 = .ok (.aload_n 0, 1) := by decide +kernel
theorem dX1_exchangeIn_1 : decode cX1_exchangeIn 1 = .ok (.iload_n 1, 1) := by decide +kernel
theorem dX1_exchangeIn_2 : decode cX1_exchangeIn 2 = .ok (.iaload, 1) := by decide +kernel
theorem dX1_exchangeIn_3 : decode cX1_exchangeIn 3 = .ok (.istore_n 3, 1) := by decide +kernel
theorem dX1_exchangeIn_4 : decode cX1_exchangeIn 4 = .ok (.aload_n 0, 1) := by decide +kernel
theorem dX1_exchangeIn_5 : decode cX1_exchangeIn 5 = .ok (.iload_n 1, 1) := by decide +kernel
theorem dX1_exchangeIn_6 : decode cX1_exchangeIn 6 = .ok (.aload_n 0, 1) := by decide +kernel
theorem dX1_exchangeIn_7 : decode cX1_exchangeIn 7 = .ok (.iload_n 2, 1) := by decide +kernel
theorem dX1_exchangeIn_8 : decode cX1_exchangeIn 8 = .ok (.iaload, 1) := by decide +kernel
theorem dX1_exchangeIn_9 : decode cX1_exchangeIn 9 = .ok (.iastore, 1) := by decide +kernel
theorem dX1_exchangeIn_10 : decode cX1_exchangeIn 10 = .ok (.aload_n 0, 1) := by decide +kernel
theorem dX1_exchangeIn_11 : decode cX1_exchangeIn 11 = .ok (.iload_n 2, 1) := by decide +kernel
theorem dX1_exchangeIn_12 : decode cX1_exchangeIn 12 = .ok (.iload_n 3, 1) := by decide +kernel
theorem dX1_exchangeIn_13 : decode cX1_exchangeIn 13 = .ok (.iastore, 1) := by decide +kernel
theorem dX1_exchangeIn_14 : decode cX1_exchangeIn 14 = .ok (.return_, 1) := by decide +kernel
theorem dX1_allGrievance_0 : decode cX1_allGrievance 0 = .ok (.iconst 0, 1) := by decide +kernel
theorem dX1_allGrievance_1 : decode cX1_allGrievance 1 = .ok (.istore_n 1, 1) := by decide +kernel
theorem dX1_allGrievance_2 : decode cX1_allGrievance 2 = .ok (.iconst 0, 1) := by decide +kernel
theorem dX1_allGrievance_3 : decode cX1_allGrievance 3 = .ok (.istore_n 2, 1) := by decide +kernel
theorem dX1_allGrievance_4 : decode cX1_allGrievance 4 = .ok (.iload_n 2, 1) := by decide +kernel
theorem dX1_allGrievance_5 : decode cX1_allGrievance 5 = .ok (.aload_n 0, 1) := by decide +kernel
theorem dX1_allGrievance_6 : decode cX1_allGrievance 6 = .ok (.getfield 39, 3) := by decide +kernel
theorem dX1_allGrievance_9 : decode cX1_allGrievance 9 = .ok (.if_icmp .ge 18, 3) := by decide +kernel
theorem dX1_allGrievance_12 : decode cX1_allGrievance 12 = .ok (.iload_n 1, 1) := by decide +kernel
theorem dX1_allGrievance_13 : decode cX1_allGrievance 13 = .ok (.aload_n 0, 1) := by decide +kernel
theorem dX1_allGrievance_14 : decode cX1_allGrievance 14 = .ok (.getfield 15, 3) := by decide +kernel
theorem dX1_allGrievance_17 : decode cX1_allGrievance 17 = .ok (.iload_n 2, 1) := by decide +kernel
theorem dX1_allGrievance_18 : decode cX1_allGrievance 18 = .ok (.iaload, 1) := by decide +kernel
theorem dX1_allGrievance_19 : decode cX1_allGrievance 19 = .ok (.iadd, 1) := by decide +kernel
theorem dX1_allGrievance_20 : decode cX1_allGrievance 20 = .ok (.istore_n 1, 1) := by decide +kernel
theorem dX1_allGrievance_21 : decode cX1_allGrievance 21 = .ok (.iinc 2 1, 3) := by decide +kernel
theorem dX1_allGrievance_24 : decode cX1_allGrievance 24 = .ok (.goto (-20), 3) := by decide +kernel
theorem dX1_allGrievance_27 : decode cX1_allGrievance 27 = .ok (.iload_n 1, 1) := by decide +kernel
theorem dX1_allGrievance_28 : decode cX1_allGrievance 28 = .ok (.ireturn, 1) := by decide +kernel
set_option maxRecDepth 20000 in
theorem ggX1_justlyWon_X1_justWinner : GoodIn wsX1_justlyWon wsX1_justWinner := goodIn_r _ [7, 8, 9, 10, 11, 12, 13, 14, 15, 16, 17, 18, 19, 20, 21, 22, 23, 24] (by decide +kernel) (by decide +kernel)
set_option maxRecDepth 20000 in
theorem gX1_justlyWon_X1_justWinner : GoodIn wsX1_justlyWon (wsV RX1 108 RX1 yX1_justWinner wsX1_justWinner) := goodIn_app (goodIn_of _ (by decide +kernel)) ggX1_justlyWon_X1_justWinner
theorem dX1_justlyWon_0 : decode cX1_justlyWon 0 = .ok (.iconst 0, 1) := by decide +kernel
theorem dX1_justlyWon_1 : decode cX1_justlyWon 1 = .ok (.istore_n 1, 1) := by decide +kernel
theorem dX1_justlyWon_2 : decode cX1_justlyWon 2 = .ok (.iconst 0, 1) := by decide +kernel
theorem dX1_justlyWon_3 : decode cX1_justlyWon 3 = .ok (.istore_n 2, 1) := by decide +kernel
theorem dX1_justlyWon_4 : decode cX1_justlyWon 4 = .ok (.iload_n 2, 1) := by decide +kernel
theorem dX1_justlyWon_5 : decode cX1_justlyWon 5 = .ok (.aload_n 0, 1) := by decide +kernel
theorem dX1_justlyWon_6 : decode cX1_justlyWon 6 = .ok (.getfield 49, 3) := by decide +kernel
theorem dX1_justlyWon_9 : decode cX1_justlyWon 9 = .ok (.if_icmp .ge 26, 3) := by decide +kernel
theorem dX1_justlyWon_12 : decode cX1_justlyWon 12 = .ok (.aload_n 0, 1) := by decide +kernel
theorem dX1_justlyWon_13 : decode cX1_justlyWon 13 = .ok (.getfield 36, 3) := by decide +kernel
theorem dX1_justlyWon_16 : decode cX1_justlyWon 16 = .ok (.iload_n 2, 1) := by decide +kernel
theorem dX1_justlyWon_17 : decode cX1_justlyWon 17 = .ok (.iaload, 1) := by decide +kernel
theorem dX1_justlyWon_18 : decode cX1_justlyWon 18 = .ok (.aload_n 0, 1) := by decide +kernel
theorem dX1_justlyWon_19 : decode cX1_justlyWon 19 = .ok (.iload_n 2, 1) := by decide +kernel
theorem dX1_justlyWon_20 : decode cX1_justlyWon 20 = .ok (.invokevirtual 108, 3) := by decide +kernel
theorem dX1_justlyWon_23 : decode cX1_justlyWon 23 = .ok (.if_icmp .ne 6, 3) := by decide +kernel
theorem dX1_justlyWon_26 : decode cX1_justlyWon 26 = .ok (.iinc 1 1, 3) := by decide +kernel
theorem dX1_justlyWon_29 : decode cX1_justlyWon 29 = .ok (.iinc 2 1, 3) := by decide +kernel
theorem dX1_justlyWon_32 : decode cX1_justlyWon 32 = .ok (.goto (-28), 3) := by decide +kernel
theorem dX1_justlyWon_35 : decode cX1_justlyWon 35 = .ok (.iload_n 1, 1) := by decide +kernel
theorem dX1_justlyWon_36 : decode cX1_justlyWon 36 = .ok (.ireturn, 1) := by decide +kernel
theorem dX1_stateOf_0 : decode cX1_stateOf 0 = .ok (.aload_n 0, 1) := by decide +kernel
theorem dX1_stateOf_1 : decode cX1_stateOf 1 = .ok (.getfield 52, 3) := by decide +kernel
theorem dX1_stateOf_4 : decode cX1_stateOf 4 = .ok (.bipush 21, 2) := by decide +kernel
theorem dX1_stateOf_6 : decode cX1_stateOf 6 = .ok (.imul, 1) := by decide +kernel
theorem dX1_stateOf_7 : decode cX1_stateOf 7 = .ok (.aload_n 0, 1) := by decide +kernel
theorem dX1_stateOf_8 : decode cX1_stateOf 8 = .ok (.getfield 15, 3) := by decide +kernel
theorem dX1_stateOf_11 : decode cX1_stateOf 11 = .ok (.aload_n 0, 1) := by decide +kernel
theorem dX1_stateOf_12 : decode cX1_stateOf 12 = .ok (.getfield 27, 3) := by decide +kernel
theorem dX1_stateOf_15 : decode cX1_stateOf 15 = .ok (.iload_n 1, 1) := by decide +kernel
theorem dX1_stateOf_16 : decode cX1_stateOf 16 = .ok (.iaload, 1) := by decide +kernel
theorem dX1_stateOf_17 : decode cX1_stateOf 17 = .ok (.iaload, 1) := by decide +kernel
theorem dX1_stateOf_18 : decode cX1_stateOf 18 = .ok (.iadd, 1) := by decide +kernel
theorem dX1_stateOf_19 : decode cX1_stateOf 19 = .ok (.bipush 21, 2) := by decide +kernel
theorem dX1_stateOf_21 : decode cX1_stateOf 21 = .ok (.imul, 1) := by decide +kernel
theorem dX1_stateOf_22 : decode cX1_stateOf 22 = .ok (.aload_n 0, 1) := by decide +kernel
theorem dX1_stateOf_23 : decode cX1_stateOf 23 = .ok (.getfield 15, 3) := by decide +kernel
theorem dX1_stateOf_26 : decode cX1_stateOf 26 = .ok (.aload_n 0, 1) := by decide +kernel
theorem dX1_stateOf_27 : decode cX1_stateOf 27 = .ok (.getfield 30, 3) := by decide +kernel
theorem dX1_stateOf_30 : decode cX1_stateOf 30 = .ok (.iload_n 1, 1) := by decide +kernel
theorem dX1_stateOf_31 : decode cX1_stateOf 31 = .ok (.iaload, 1) := by decide +kernel
theorem dX1_stateOf_32 : decode cX1_stateOf 32 = .ok (.iaload, 1) := by decide +kernel
theorem dX1_stateOf_33 : decode cX1_stateOf 33 = .ok (.iadd, 1) := by decide +kernel
theorem dX1_stateOf_34 : decode cX1_stateOf 34 = .ok (.ireturn, 1) := by decide +kernel
set_option maxRecDepth 20000 in
theorem ggX1_stateBehind_X1_settle : GoodIn wsX1_stateBehind wsX1_settle := goodIn_r _ [9, 1, 4, 3, 10, 11, 2, 12, 13, 14, 15, 16, 17, 18, 19, 20, 21, 22, 23, 8, 24, 25, 26, 27, 28, 29, 30, 31, 32, 33, 34, 35, 36, 37, 38, 39, 40, 41, 42, 43, 44, 45, 46, 47, 48, 49, 50, 51, 56, 57, 58, 59, 60, 61, 62, 63, 64, 65, 66, 67, 68, 69] (by decide +kernel) (by decide +kernel)
set_option maxRecDepth 20000 in
theorem gX1_stateBehind_X1_settle : GoodIn wsX1_stateBehind (wsV RX1 100 RX1 yX1_settle wsX1_settle) := goodIn_app (goodIn_of _ (by decide +kernel)) ggX1_stateBehind_X1_settle
set_option maxRecDepth 20000 in
theorem ggX1_stateBehind_X1_stateOf : GoodIn wsX1_stateBehind wsX1_stateOf := goodIn_r _ [55, 1, 2, 3, 4, 56, 57, 58, 59, 60, 61, 62, 63, 64, 65, 66, 67, 68, 69] (by decide +kernel) (by decide +kernel)
set_option maxRecDepth 20000 in
theorem gX1_stateBehind_X1_stateOf : GoodIn wsX1_stateBehind (wsV RX1 112 RX1 yX1_stateOf wsX1_stateOf) := goodIn_app (goodIn_of _ (by decide +kernel)) ggX1_stateBehind_X1_stateOf
theorem dX1_stateBehind_0 : decode cX1_stateBehind 0 = .ok (.aload_n 0, 1) := by decide +kernel
theorem dX1_stateBehind_1 : decode cX1_stateBehind 1 = .ok (.iload_n 2, 1) := by decide +kernel
theorem dX1_stateBehind_2 : decode cX1_stateBehind 2 = .ok (.bipush 21, 2) := by decide +kernel
theorem dX1_stateBehind_4 : decode cX1_stateBehind 4 = .ok (.idiv, 1) := by decide +kernel
theorem dX1_stateBehind_5 : decode cX1_stateBehind 5 = .ok (.bipush 21, 2) := by decide +kernel
theorem dX1_stateBehind_7 : decode cX1_stateBehind 7 = .ok (.idiv, 1) := by decide +kernel
theorem dX1_stateBehind_8 : decode cX1_stateBehind 8 = .ok (.putfield 52, 3) := by decide +kernel
theorem dX1_stateBehind_11 : decode cX1_stateBehind 11 = .ok (.aload_n 0, 1) := by decide +kernel
theorem dX1_stateBehind_12 : decode cX1_stateBehind 12 = .ok (.getfield 15, 3) := by decide +kernel
theorem dX1_stateBehind_15 : decode cX1_stateBehind 15 = .ok (.aload_n 0, 1) := by decide +kernel
theorem dX1_stateBehind_16 : decode cX1_stateBehind 16 = .ok (.getfield 27, 3) := by decide +kernel
theorem dX1_stateBehind_19 : decode cX1_stateBehind 19 = .ok (.iload_n 1, 1) := by decide +kernel
theorem dX1_stateBehind_20 : decode cX1_stateBehind 20 = .ok (.iaload, 1) := by decide +kernel
theorem dX1_stateBehind_21 : decode cX1_stateBehind 21 = .ok (.iload_n 2, 1) := by decide +kernel
theorem dX1_stateBehind_22 : decode cX1_stateBehind 22 = .ok (.bipush 21, 2) := by decide +kernel
theorem dX1_stateBehind_24 : decode cX1_stateBehind 24 = .ok (.idiv, 1) := by decide +kernel
theorem dX1_stateBehind_25 : decode cX1_stateBehind 25 = .ok (.bipush 21, 2) := by decide +kernel
theorem dX1_stateBehind_27 : decode cX1_stateBehind 27 = .ok (.irem, 1) := by decide +kernel
theorem dX1_stateBehind_28 : decode cX1_stateBehind 28 = .ok (.iastore, 1) := by decide +kernel
theorem dX1_stateBehind_29 : decode cX1_stateBehind 29 = .ok (.aload_n 0, 1) := by decide +kernel
theorem dX1_stateBehind_30 : decode cX1_stateBehind 30 = .ok (.getfield 15, 3) := by decide +kernel
theorem dX1_stateBehind_33 : decode cX1_stateBehind 33 = .ok (.aload_n 0, 1) := by decide +kernel
theorem dX1_stateBehind_34 : decode cX1_stateBehind 34 = .ok (.getfield 30, 3) := by decide +kernel
theorem dX1_stateBehind_37 : decode cX1_stateBehind 37 = .ok (.iload_n 1, 1) := by decide +kernel
theorem dX1_stateBehind_38 : decode cX1_stateBehind 38 = .ok (.iaload, 1) := by decide +kernel
theorem dX1_stateBehind_39 : decode cX1_stateBehind 39 = .ok (.iload_n 2, 1) := by decide +kernel
theorem dX1_stateBehind_40 : decode cX1_stateBehind 40 = .ok (.bipush 21, 2) := by decide +kernel
theorem dX1_stateBehind_42 : decode cX1_stateBehind 42 = .ok (.irem, 1) := by decide +kernel
theorem dX1_stateBehind_43 : decode cX1_stateBehind 43 = .ok (.iastore, 1) := by decide +kernel
theorem dX1_stateBehind_44 : decode cX1_stateBehind 44 = .ok (.aload_n 0, 1) := by decide +kernel
theorem dX1_stateBehind_45 : decode cX1_stateBehind 45 = .ok (.iload_n 1, 1) := by decide +kernel
theorem dX1_stateBehind_46 : decode cX1_stateBehind 46 = .ok (.iconst 0, 1) := by decide +kernel
theorem dX1_stateBehind_47 : decode cX1_stateBehind 47 = .ok (.invokevirtual 100, 3) := by decide +kernel
theorem dX1_stateBehind_50 : decode cX1_stateBehind 50 = .ok (.aload_n 0, 1) := by decide +kernel
theorem dX1_stateBehind_51 : decode cX1_stateBehind 51 = .ok (.iload_n 1, 1) := by decide +kernel
theorem dX1_stateBehind_52 : decode cX1_stateBehind 52 = .ok (.invokevirtual 112, 3) := by decide +kernel
theorem dX1_stateBehind_55 : decode cX1_stateBehind 55 = .ok (.ireturn, 1) := by decide +kernel
theorem dX2_init_0 : decode cX2_init 0 = .ok (.aload_n 0, 1) := by decide +kernel
theorem dX2_init_1 : decode cX2_init 1 = .ok (.invokespecial 3, 3) := by decide +kernel
theorem dX2_init_4 : decode cX2_init 4 = .ok (.aload_n 0, 1) := by decide +kernel
theorem dX2_init_5 : decode cX2_init 5 = .ok (.bipush 10, 2) := by decide +kernel
theorem dX2_init_7 : decode cX2_init 7 = .ok (.newarray .int, 2) := by decide +kernel
theorem dX2_init_9 : decode cX2_init 9 = .ok (.putfield 9, 3) := by decide +kernel
theorem dX2_init_12 : decode cX2_init 12 = .ok (.aload_n 0, 1) := by decide +kernel
theorem dX2_init_13 : decode cX2_init 13 = .ok (.bipush 10, 2) := by decide +kernel
theorem dX2_init_15 : decode cX2_init 15 = .ok (.newarray .int, 2) := by decide +kernel
theorem dX2_init_17 : decode cX2_init 17 = .ok (.putfield 15, 3) := by decide +kernel
theorem dX2_init_20 : decode cX2_init 20 = .ok (.aload_n 0, 1) := by decide +kernel
theorem dX2_init_21 : decode cX2_init 21 = .ok (.bipush 6, 2) := by decide +kernel
theorem dX2_init_23 : decode cX2_init 23 = .ok (.newarray .int, 2) := by decide +kernel
theorem dX2_init_25 : decode cX2_init 25 = .ok (.putfield 18, 3) := by decide +kernel
theorem dX2_init_28 : decode cX2_init 28 = .ok (.aload_n 0, 1) := by decide +kernel
theorem dX2_init_29 : decode cX2_init 29 = .ok (.iconst 0, 1) := by decide +kernel
theorem dX2_init_30 : decode cX2_init 30 = .ok (.putfield 21, 3) := by decide +kernel
theorem dX2_init_33 : decode cX2_init 33 = .ok (.return_, 1) := by decide +kernel
theorem dX2_take_0 : decode cX2_take 0 = .ok (.aload_n 0, 1) := by decide +kernel
theorem dX2_take_1 : decode cX2_take 1 = .ok (.iload_n 3, 1) := by decide +kernel
theorem dX2_take_2 : decode cX2_take 2 = .ok (.putfield 21, 3) := by decide +kernel
theorem dX2_take_5 : decode cX2_take 5 = .ok (.iconst 0, 1) := by decide +kernel
theorem dX2_take_6 : decode cX2_take 6 = .ok (.istore 6, 2) := by decide +kernel
theorem dX2_take_8 : decode cX2_take 8 = .ok (.iload 6, 2) := by decide +kernel
theorem dX2_take_10 : decode cX2_take 10 = .ok (.iload_n 3, 1) := by decide +kernel
theorem dX2_take_11 : decode cX2_take 11 = .ok (.if_icmp .ge 91, 3) := by decide +kernel
theorem dX2_take_14 : decode cX2_take 14 = .ok (.aload_n 1, 1) := by decide +kernel
theorem dX2_take_15 : decode cX2_take 15 = .ok (.getfield 25, 3) := by decide +kernel
theorem dX2_take_18 : decode cX2_take 18 = .ok (.iload_n 2, 1) := by decide +kernel
theorem dX2_take_19 : decode cX2_take 19 = .ok (.iconst 2, 1) := by decide +kernel
theorem dX2_take_20 : decode cX2_take 20 = .ok (.iload 6, 2) := by decide +kernel
theorem dX2_take_22 : decode cX2_take 22 = .ok (.imul, 1) := by decide +kernel
theorem dX2_take_23 : decode cX2_take 23 = .ok (.iadd, 1) := by decide +kernel
theorem dX2_take_24 : decode cX2_take 24 = .ok (.laload, 1) := by decide +kernel
theorem dX2_take_25 : decode cX2_take 25 = .ok (.lstore 7, 2) := by decide +kernel
theorem dX2_take_27 : decode cX2_take 27 = .ok (.aload_n 1, 1) := by decide +kernel
theorem dX2_take_28 : decode cX2_take 28 = .ok (.getfield 25, 3) := by decide +kernel
theorem dX2_take_31 : decode cX2_take 31 = .ok (.iload_n 2, 1) := by decide +kernel
theorem dX2_take_32 : decode cX2_take 32 = .ok (.iconst 2, 1) := by decide +kernel
theorem dX2_take_33 : decode cX2_take 33 = .ok (.iload 6, 2) := by decide +kernel
theorem dX2_take_35 : decode cX2_take 35 = .ok (.imul, 1) := by decide +kernel
theorem dX2_take_36 : decode cX2_take 36 = .ok (.iadd, 1) := by decide +kernel
theorem dX2_take_37 : decode cX2_take 37 = .ok (.iconst 1, 1) := by decide +kernel
theorem dX2_take_38 : decode cX2_take 38 = .ok (.iadd, 1) := by decide +kernel
theorem dX2_take_39 : decode cX2_take 39 = .ok (.laload, 1) := by decide +kernel
theorem dX2_take_40 : decode cX2_take 40 = .ok (.lstore 9, 2) := by decide +kernel
theorem dX2_take_42 : decode cX2_take 42 = .ok (.lload 7, 2) := by decide +kernel
theorem dX2_take_44 : decode cX2_take 44 = .ok (.lconst 0, 1) := by decide +kernel
theorem dX2_take_45 : decode cX2_take 45 = .ok (.lcmp, 1) := by decide +kernel
theorem dX2_take_46 : decode cX2_take 46 = .ok (.ifCond .lt 28, 3) := by decide +kernel
theorem dX2_take_49 : decode cX2_take 49 = .ok (.lload 7, 2) := by decide +kernel
theorem dX2_take_51 : decode cX2_take 51 = .ok (.iload 4, 2) := by decide +kernel
theorem dX2_take_53 : decode cX2_take 53 = .ok (.i2l, 1) := by decide +kernel
theorem dX2_take_54 : decode cX2_take 54 = .ok (.lcmp, 1) := by decide +kernel
theorem dX2_take_55 : decode cX2_take 55 = .ok (.ifCond .ge 19, 3) := by decide +kernel
theorem dX2_take_58 : decode cX2_take 58 = .ok (.lload 9, 2) := by decide +kernel
theorem dX2_take_60 : decode cX2_take 60 = .ok (.lconst 0, 1) := by decide +kernel
theorem dX2_take_61 : decode cX2_take 61 = .ok (.lcmp, 1) := by decide +kernel
theorem dX2_take_62 : decode cX2_take 62 = .ok (.ifCond .lt 12, 3) := by decide +kernel
theorem dX2_take_65 : decode cX2_take 65 = .ok (.lload 9, 2) := by decide +kernel
theorem dX2_take_67 : decode cX2_take 67 = .ok (.iload 5, 2) := by decide +kernel
theorem dX2_take_69 : decode cX2_take 69 = .ok (.i2l, 1) := by decide +kernel
theorem dX2_take_70 : decode cX2_take 70 = .ok (.lcmp, 1) := by decide +kernel
theorem dX2_take_71 : decode cX2_take 71 = .ok (.ifCond .lt 5, 3) := by decide +kernel
theorem dX2_take_74 : decode cX2_take 74 = .ok (.iconst 0, 1) := by decide +kernel
theorem dX2_take_75 : decode cX2_take 75 = .ok (.ireturn, 1) := by decide +kernel
theorem dX2_take_76 : decode cX2_take 76 = .ok (.aload_n 0, 1) := by decide +kernel
theorem dX2_take_77 : decode cX2_take 77 = .ok (.getfield 9, 3) := by decide +kernel
theorem dX2_take_80 : decode cX2_take 80 = .ok (.iload 6, 2) := by decide +kernel
theorem dX2_take_82 : decode cX2_take 82 = .ok (.lload 7, 2) := by decide +kernel
theorem dX2_take_84 : decode cX2_take 84 = .ok (.l2i, 1) := by decide +kernel
theorem dX2_take_85 : decode cX2_take 85 = .ok (.iastore, 1) := by decide +kernel
theorem dX2_take_86 : decode cX2_take 86 = .ok (.aload_n 0, 1) := by decide +kernel
theorem dX2_take_87 : decode cX2_take 87 = .ok (.getfield 15, 3) := by decide +kernel
theorem dX2_take_90 : decode cX2_take 90 = .ok (.iload 6, 2) := by decide +kernel
theorem dX2_take_92 : decode cX2_take 92 = .ok (.lload 9, 2) := by decide +kernel
theorem dX2_take_94 : decode cX2_take 94 = .ok (.l2i, 1) := by decide +kernel
theorem dX2_take_95 : decode cX2_take 95 = .ok (.iastore, 1) := by decide +kernel
theorem dX2_take_96 : decode cX2_take 96 = .ok (.iinc 6 1, 3) := by decide +kernel
theorem dX2_take_99 : decode cX2_take 99 = .ok (.goto (-91), 3) := by decide +kernel
theorem dX2_take_102 : decode cX2_take 102 = .ok (.iconst 1, 1) := by decide +kernel
theorem dX2_take_103 : decode cX2_take 103 = .ok (.ireturn, 1) := by decide +kernel
set_option maxRecDepth 20000 in
theorem ggX2_leansOf_X1_pleaBefore : GoodIn wsX2_leansOf wsX1_pleaBefore := goodIn_r _ [8, 9, 10, 11, 12, 17, 18, 19, 20, 21, 22, 23, 24, 25, 26, 27, 28, 29, 30] (by decide +kernel) (by decide +kernel)
set_option maxRecDepth 20000 in
theorem gX2_leansOf_X1_pleaBefore : GoodIn wsX2_leansOf (wsV RX2 31 RX1 yX1_pleaBefore wsX1_pleaBefore) := goodIn_app (goodIn_of _ (by decide +kernel)) ggX2_leansOf_X1_pleaBefore
theorem dX2_leansOf_0 : decode cX2_leansOf 0 = .ok (.iconst 0, 1) := by decide +kernel
theorem dX2_leansOf_1 : decode cX2_leansOf 1 = .ok (.istore_n 3, 1) := by decide +kernel
theorem dX2_leansOf_2 : decode cX2_leansOf 2 = .ok (.iconst 0, 1) := by decide +kernel
theorem dX2_leansOf_3 : decode cX2_leansOf 3 = .ok (.istore 4, 2) := by decide +kernel
theorem dX2_leansOf_5 : decode cX2_leansOf 5 = .ok (.iload 4, 2) := by decide +kernel
theorem dX2_leansOf_7 : decode cX2_leansOf 7 = .ok (.bipush 9, 2) := by decide +kernel
theorem dX2_leansOf_9 : decode cX2_leansOf 9 = .ok (.if_icmp .gt 90, 3) := by decide +kernel
theorem dX2_leansOf_12 : decode cX2_leansOf 12 = .ok (.iconst 1, 1) := by decide +kernel
theorem dX2_leansOf_13 : decode cX2_leansOf 13 = .ok (.istore 5, 2) := by decide +kernel
theorem dX2_leansOf_15 : decode cX2_leansOf 15 = .ok (.iconst 0, 1) := by decide +kernel
theorem dX2_leansOf_16 : decode cX2_leansOf 16 = .ok (.istore 6, 2) := by decide +kernel
theorem dX2_leansOf_18 : decode cX2_leansOf 18 = .ok (.iload 6, 2) := by decide +kernel
theorem dX2_leansOf_20 : decode cX2_leansOf 20 = .ok (.aload_n 0, 1) := by decide +kernel
theorem dX2_leansOf_21 : decode cX2_leansOf 21 = .ok (.getfield 21, 3) := by decide +kernel
theorem dX2_leansOf_24 : decode cX2_leansOf 24 = .ok (.if_icmp .ge 57, 3) := by decide +kernel
theorem dX2_leansOf_27 : decode cX2_leansOf 27 = .ok (.aload_n 1, 1) := by decide +kernel
theorem dX2_leansOf_28 : decode cX2_leansOf 28 = .ok (.iload_n 2, 1) := by decide +kernel
theorem dX2_leansOf_29 : decode cX2_leansOf 29 = .ok (.aload_n 0, 1) := by decide +kernel
theorem dX2_leansOf_30 : decode cX2_leansOf 30 = .ok (.getfield 9, 3) := by decide +kernel
theorem dX2_leansOf_33 : decode cX2_leansOf 33 = .ok (.iload 6, 2) := by decide +kernel
theorem dX2_leansOf_35 : decode cX2_leansOf 35 = .ok (.iaload, 1) := by decide +kernel
theorem dX2_leansOf_36 : decode cX2_leansOf 36 = .ok (.invokevirtual 31, 3) := by decide +kernel
theorem dX2_leansOf_39 : decode cX2_leansOf 39 = .ok (.iload 4, 2) := by decide +kernel
theorem dX2_leansOf_41 : decode cX2_leansOf 41 = .ok (.if_icmp .lt 7, 3) := by decide +kernel
theorem dX2_leansOf_44 : decode cX2_leansOf 44 = .ok (.iconst 0, 1) := by decide +kernel
theorem dX2_leansOf_45 : decode cX2_leansOf 45 = .ok (.goto 4, 3) := by decide +kernel
theorem dX2_leansOf_48 : decode cX2_leansOf 48 = .ok (.iconst 1, 1) := by decide +kernel
theorem dX2_leansOf_49 : decode cX2_leansOf 49 = .ok (.istore 7, 2) := by decide +kernel
theorem dX2_leansOf_51 : decode cX2_leansOf 51 = .ok (.iload 5, 2) := by decide +kernel
theorem dX2_leansOf_53 : decode cX2_leansOf 53 = .ok (.ifCond .eq 19, 3) := by decide +kernel
theorem dX2_leansOf_56 : decode cX2_leansOf 56 = .ok (.iload 7, 2) := by decide +kernel
theorem dX2_leansOf_58 : decode cX2_leansOf 58 = .ok (.aload_n 0, 1) := by decide +kernel
theorem dX2_leansOf_59 : decode cX2_leansOf 59 = .ok (.getfield 15, 3) := by decide +kernel
theorem dX2_leansOf_62 : decode cX2_leansOf 62 = .ok (.iload 6, 2) := by decide +kernel
theorem dX2_leansOf_64 : decode cX2_leansOf 64 = .ok (.iaload, 1) := by decide +kernel
theorem dX2_leansOf_65 : decode cX2_leansOf 65 = .ok (.if_icmp .ne 7, 3) := by decide +kernel
theorem dX2_leansOf_68 : decode cX2_leansOf 68 = .ok (.iconst 1, 1) := by decide +kernel
theorem dX2_leansOf_69 : decode cX2_leansOf 69 = .ok (.goto 4, 3) := by decide +kernel
theorem dX2_leansOf_72 : decode cX2_leansOf 72 = .ok (.iconst 0, 1) := by decide +kernel
theorem dX2_leansOf_73 : decode cX2_leansOf 73 = .ok (.istore 5, 2) := by decide +kernel
theorem dX2_leansOf_75 : decode cX2_leansOf 75 = .ok (.iinc 6 1, 3) := by decide +kernel
theorem dX2_leansOf_78 : decode cX2_leansOf 78 = .ok (.goto (-60), 3) := by decide +kernel
theorem dX2_leansOf_81 : decode cX2_leansOf 81 = .ok (.iload 5, 2) := by decide +kernel
theorem dX2_leansOf_83 : decode cX2_leansOf 83 = .ok (.ifCond .eq 10, 3) := by decide +kernel
theorem dX2_leansOf_86 : decode cX2_leansOf 86 = .ok (.iload_n 3, 1) := by decide +kernel
theorem dX2_leansOf_87 : decode cX2_leansOf 87 = .ok (.iconst 1, 1) := by decide +kernel
theorem dX2_leansOf_88 : decode cX2_leansOf 88 = .ok (.iload 4, 2) := by decide +kernel
theorem dX2_leansOf_90 : decode cX2_leansOf 90 = .ok (.ishl, 1) := by decide +kernel
theorem dX2_leansOf_91 : decode cX2_leansOf 91 = .ok (.ior, 1) := by decide +kernel
theorem dX2_leansOf_92 : decode cX2_leansOf 92 = .ok (.istore_n 3, 1) := by decide +kernel
theorem dX2_leansOf_93 : decode cX2_leansOf 93 = .ok (.iinc 4 1, 3) := by decide +kernel
theorem dX2_leansOf_96 : decode cX2_leansOf 96 = .ok (.goto (-91), 3) := by decide +kernel
theorem dX2_leansOf_99 : decode cX2_leansOf 99 = .ok (.iload_n 3, 1) := by decide +kernel
theorem dX2_leansOf_100 : decode cX2_leansOf 100 = .ok (.ireturn, 1) := by decide +kernel
set_option maxRecDepth 20000 in
theorem ggX2_caseToTry_X1_pleaBefore : GoodIn wsX2_caseToTry wsX1_pleaBefore := goodIn_r _ [6, 7, 8, 9, 10, 26, 27, 28, 29, 30, 31, 32, 33, 34, 35, 36, 37, 38, 39] (by decide +kernel) (by decide +kernel)
set_option maxRecDepth 20000 in
theorem gX2_caseToTry_X1_pleaBefore : GoodIn wsX2_caseToTry (wsV RX2 31 RX1 yX1_pleaBefore wsX1_pleaBefore) := goodIn_app (goodIn_of _ (by decide +kernel)) ggX2_caseToTry_X1_pleaBefore
set_option maxRecDepth 20000 in
theorem ggX2_caseToTry_X2_greaterPart : GoodIn wsX2_caseToTry wsX2_greaterPart := goodIn_r _ [14, 15, 16, 17, 18, 19, 20, 21, 22, 23, 24, 25] (by decide +kernel) (by decide +kernel)
set_option maxRecDepth 20000 in
theorem gX2_caseToTry_X2_greaterPart : GoodIn wsX2_caseToTry (va_wsS RX2 40 yX2_greaterPart wsX2_greaterPart) := goodIn_app (goodIn_of _ (by decide +kernel)) ggX2_caseToTry_X2_greaterPart
theorem dX2_caseToTry_0 : decode cX2_caseToTry 0 = .ok (.bipush (-4), 2) := by decide +kernel
theorem dX2_caseToTry_2 : decode cX2_caseToTry 2 = .ok (.istore 4, 2) := by decide +kernel
theorem dX2_caseToTry_4 : decode cX2_caseToTry 4 = .ok (.iconst 0, 1) := by decide +kernel
theorem dX2_caseToTry_5 : decode cX2_caseToTry 5 = .ok (.istore 5, 2) := by decide +kernel
theorem dX2_caseToTry_7 : decode cX2_caseToTry 7 = .ok (.iconst 0, 1) := by decide +kernel
theorem dX2_caseToTry_8 : decode cX2_caseToTry 8 = .ok (.istore 6, 2) := by decide +kernel
theorem dX2_caseToTry_10 : decode cX2_caseToTry 10 = .ok (.iload 6, 2) := by decide +kernel
theorem dX2_caseToTry_12 : decode cX2_caseToTry 12 = .ok (.aload_n 1, 1) := by decide +kernel
theorem dX2_caseToTry_13 : decode cX2_caseToTry 13 = .ok (.getfield 37, 3) := by decide +kernel
theorem dX2_caseToTry_16 : decode cX2_caseToTry 16 = .ok (.if_icmp .ge 48, 3) := by decide +kernel
theorem dX2_caseToTry_19 : decode cX2_caseToTry 19 = .ok (.iload_n 3, 1) := by decide +kernel
theorem dX2_caseToTry_20 : decode cX2_caseToTry 20 = .ok (.ifCond .eq 44, 3) := by decide +kernel
theorem dX2_caseToTry_23 : decode cX2_caseToTry 23 = .ok (.aload_n 1, 1) := by decide +kernel
theorem dX2_caseToTry_24 : decode cX2_caseToTry 24 = .ok (.iload_n 2, 1) := by decide +kernel
theorem dX2_caseToTry_25 : decode cX2_caseToTry 25 = .ok (.iload 6, 2) := by decide +kernel
theorem dX2_caseToTry_27 : decode cX2_caseToTry 27 = .ok (.invokevirtual 31, 3) := by decide +kernel
theorem dX2_caseToTry_30 : decode cX2_caseToTry 30 = .ok (.iload_n 3, 1) := by decide +kernel
theorem dX2_caseToTry_31 : decode cX2_caseToTry 31 = .ok (.invokestatic 40, 3) := by decide +kernel
theorem dX2_caseToTry_34 : decode cX2_caseToTry 34 = .ok (.istore 7, 2) := by decide +kernel
theorem dX2_caseToTry_36 : decode cX2_caseToTry 36 = .ok (.iload 4, 2) := by decide +kernel
theorem dX2_caseToTry_38 : decode cX2_caseToTry 38 = .ok (.bipush (-4), 2) := by decide +kernel
theorem dX2_caseToTry_40 : decode cX2_caseToTry 40 = .ok (.if_icmp .eq 10, 3) := by decide +kernel
theorem dX2_caseToTry_43 : decode cX2_caseToTry 43 = .ok (.iload 7, 2) := by decide +kernel
theorem dX2_caseToTry_45 : decode cX2_caseToTry 45 = .ok (.iload 5, 2) := by decide +kernel
theorem dX2_caseToTry_47 : decode cX2_caseToTry 47 = .ok (.if_icmp .ge 11, 3) := by decide +kernel
theorem dX2_caseToTry_50 : decode cX2_caseToTry 50 = .ok (.iload 6, 2) := by decide +kernel
theorem dX2_caseToTry_52 : decode cX2_caseToTry 52 = .ok (.istore 4, 2) := by decide +kernel
theorem dX2_caseToTry_54 : decode cX2_caseToTry 54 = .ok (.iload 7, 2) := by decide +kernel
theorem dX2_caseToTry_56 : decode cX2_caseToTry 56 = .ok (.istore 5, 2) := by decide +kernel
theorem dX2_caseToTry_58 : decode cX2_caseToTry 58 = .ok (.iinc 6 1, 3) := by decide +kernel
theorem dX2_caseToTry_61 : decode cX2_caseToTry 61 = .ok (.goto (-51), 3) := by decide +kernel
theorem dX2_caseToTry_64 : decode cX2_caseToTry 64 = .ok (.iload 4, 2) := by decide +kernel
theorem dX2_caseToTry_66 : decode cX2_caseToTry 66 = .ok (.ireturn, 1) := by decide +kernel
set_option maxRecDepth 20000 in
theorem ggX2_greaterPart_J6_bitCount_0f7a4 : GoodIn wsX2_greaterPart wsJ6_bitCount_0f7a4 := goodIn_r _ [8, 9, 10, 11] (by decide +kernel) (by decide +kernel)
set_option maxRecDepth 20000 in
theorem gX2_greaterPart_J6_bitCount_0f7a4 : GoodIn wsX2_greaterPart (va_wsS RX2 43 yJ6_bitCount_0f7a4 wsJ6_bitCount_0f7a4) := goodIn_app (goodIn_of _ (by decide +kernel)) ggX2_greaterPart_J6_bitCount_0f7a4
theorem dX2_greaterPart_0 : decode cX2_greaterPart 0 = .ok (.iconst 0, 1) := by decide +kernel
theorem dX2_greaterPart_1 : decode cX2_greaterPart 1 = .ok (.istore_n 2, 1) := by decide +kernel
theorem dX2_greaterPart_2 : decode cX2_greaterPart 2 = .ok (.iconst 0, 1) := by decide +kernel
theorem dX2_greaterPart_3 : decode cX2_greaterPart 3 = .ok (.istore_n 3, 1) := by decide +kernel
theorem dX2_greaterPart_4 : decode cX2_greaterPart 4 = .ok (.iload_n 3, 1) := by decide +kernel
theorem dX2_greaterPart_5 : decode cX2_greaterPart 5 = .ok (.bipush 9, 2) := by decide +kernel
theorem dX2_greaterPart_7 : decode cX2_greaterPart 7 = .ok (.if_icmp .gt 22, 3) := by decide +kernel
theorem dX2_greaterPart_10 : decode cX2_greaterPart 10 = .ok (.iload_n 3, 1) := by decide +kernel
theorem dX2_greaterPart_11 : decode cX2_greaterPart 11 = .ok (.iload_n 0, 1) := by decide +kernel
theorem dX2_greaterPart_12 : decode cX2_greaterPart 12 = .ok (.if_icmp .gt 17, 3) := by decide +kernel
theorem dX2_greaterPart_15 : decode cX2_greaterPart 15 = .ok (.iload_n 2, 1) := by decide +kernel
theorem dX2_greaterPart_16 : decode cX2_greaterPart 16 = .ok (.iload_n 1, 1) := by decide +kernel
theorem dX2_greaterPart_17 : decode cX2_greaterPart 17 = .ok (.iload_n 3, 1) := by decide +kernel
theorem dX2_greaterPart_18 : decode cX2_greaterPart 18 = .ok (.ishr, 1) := by decide +kernel
theorem dX2_greaterPart_19 : decode cX2_greaterPart 19 = .ok (.iconst 1, 1) := by decide +kernel
theorem dX2_greaterPart_20 : decode cX2_greaterPart 20 = .ok (.iand, 1) := by decide +kernel
theorem dX2_greaterPart_21 : decode cX2_greaterPart 21 = .ok (.iadd, 1) := by decide +kernel
theorem dX2_greaterPart_22 : decode cX2_greaterPart 22 = .ok (.istore_n 2, 1) := by decide +kernel
theorem dX2_greaterPart_23 : decode cX2_greaterPart 23 = .ok (.iinc 3 1, 3) := by decide +kernel
theorem dX2_greaterPart_26 : decode cX2_greaterPart 26 = .ok (.goto (-22), 3) := by decide +kernel
theorem dX2_greaterPart_29 : decode cX2_greaterPart 29 = .ok (.iload_n 2, 1) := by decide +kernel
theorem dX2_greaterPart_30 : decode cX2_greaterPart 30 = .ok (.iload_n 1, 1) := by decide +kernel
theorem dX2_greaterPart_31 : decode cX2_greaterPart 31 = .ok (.invokestatic 43, 3) := by decide +kernel
theorem dX2_greaterPart_34 : decode cX2_greaterPart 34 = .ok (.iload_n 2, 1) := by decide +kernel
theorem dX2_greaterPart_35 : decode cX2_greaterPart 35 = .ok (.isub, 1) := by decide +kernel
theorem dX2_greaterPart_36 : decode cX2_greaterPart 36 = .ok (.invokestatic 49, 3) := by decide +kernel
theorem dX2_greaterPart_39 : decode cX2_greaterPart 39 = .ok (.ireturn, 1) := by decide +kernel
set_option maxRecDepth 20000 in
theorem ggX2_kindsOf_X1_namedAs : GoodIn wsX2_kindsOf wsX1_namedAs := goodIn_r _ [8, 9, 10, 11, 12, 7, 13, 14, 15, 16, 17, 18, 19, 24, 25, 26, 27, 28, 29, 30, 31, 32, 33, 34, 35, 36, 37] (by decide +kernel) (by decide +kernel)
set_option maxRecDepth 20000 in
theorem gX2_kindsOf_X1_namedAs : GoodIn wsX2_kindsOf (wsV RX2 54 RX1 yX1_namedAs wsX1_namedAs) := goodIn_app (goodIn_of _ (by decide +kernel)) ggX2_kindsOf_X1_namedAs
theorem dX2_kindsOf_0 : decode cX2_kindsOf 0 = .ok (.iconst 0, 1) := by decide +kernel
theorem dX2_kindsOf_1 : decode cX2_kindsOf 1 = .ok (.istore_n 3, 1) := by decide +kernel
theorem dX2_kindsOf_2 : decode cX2_kindsOf 2 = .ok (.iconst 1, 1) := by decide +kernel
theorem dX2_kindsOf_3 : decode cX2_kindsOf 3 = .ok (.istore 4, 2) := by decide +kernel
theorem dX2_kindsOf_5 : decode cX2_kindsOf 5 = .ok (.iload 4, 2) := by decide +kernel
theorem dX2_kindsOf_7 : decode cX2_kindsOf 7 = .ok (.iconst 5, 1) := by decide +kernel
theorem dX2_kindsOf_8 : decode cX2_kindsOf 8 = .ok (.if_icmp .gt 78, 3) := by decide +kernel
theorem dX2_kindsOf_11 : decode cX2_kindsOf 11 = .ok (.iconst 1, 1) := by decide +kernel
theorem dX2_kindsOf_12 : decode cX2_kindsOf 12 = .ok (.istore 5, 2) := by decide +kernel
theorem dX2_kindsOf_14 : decode cX2_kindsOf 14 = .ok (.iconst 0, 1) := by decide +kernel
theorem dX2_kindsOf_15 : decode cX2_kindsOf 15 = .ok (.istore 6, 2) := by decide +kernel
theorem dX2_kindsOf_17 : decode cX2_kindsOf 17 = .ok (.iload 6, 2) := by decide +kernel
theorem dX2_kindsOf_19 : decode cX2_kindsOf 19 = .ok (.aload_n 0, 1) := by decide +kernel
theorem dX2_kindsOf_20 : decode cX2_kindsOf 20 = .ok (.getfield 21, 3) := by decide +kernel
theorem dX2_kindsOf_23 : decode cX2_kindsOf 23 = .ok (.if_icmp .ge 45, 3) := by decide +kernel
theorem dX2_kindsOf_26 : decode cX2_kindsOf 26 = .ok (.iload 5, 2) := by decide +kernel
theorem dX2_kindsOf_28 : decode cX2_kindsOf 28 = .ok (.ifCond .eq 31, 3) := by decide +kernel
theorem dX2_kindsOf_31 : decode cX2_kindsOf 31 = .ok (.aload_n 1, 1) := by decide +kernel
theorem dX2_kindsOf_32 : decode cX2_kindsOf 32 = .ok (.iload_n 2, 1) := by decide +kernel
theorem dX2_kindsOf_33 : decode cX2_kindsOf 33 = .ok (.iload 4, 2) := by decide +kernel
theorem dX2_kindsOf_35 : decode cX2_kindsOf 35 = .ok (.aload_n 0, 1) := by decide +kernel
theorem dX2_kindsOf_36 : decode cX2_kindsOf 36 = .ok (.getfield 9, 3) := by decide +kernel
theorem dX2_kindsOf_39 : decode cX2_kindsOf 39 = .ok (.iload 6, 2) := by decide +kernel
theorem dX2_kindsOf_41 : decode cX2_kindsOf 41 = .ok (.iaload, 1) := by decide +kernel
theorem dX2_kindsOf_42 : decode cX2_kindsOf 42 = .ok (.invokevirtual 54, 3) := by decide +kernel
theorem dX2_kindsOf_45 : decode cX2_kindsOf 45 = .ok (.aload_n 0, 1) := by decide +kernel
theorem dX2_kindsOf_46 : decode cX2_kindsOf 46 = .ok (.getfield 15, 3) := by decide +kernel
theorem dX2_kindsOf_49 : decode cX2_kindsOf 49 = .ok (.iload 6, 2) := by decide +kernel
theorem dX2_kindsOf_51 : decode cX2_kindsOf 51 = .ok (.iaload, 1) := by decide +kernel
theorem dX2_kindsOf_52 : decode cX2_kindsOf 52 = .ok (.if_icmp .ne 7, 3) := by decide +kernel
theorem dX2_kindsOf_55 : decode cX2_kindsOf 55 = .ok (.iconst 1, 1) := by decide +kernel
theorem dX2_kindsOf_56 : decode cX2_kindsOf 56 = .ok (.goto 4, 3) := by decide +kernel
theorem dX2_kindsOf_59 : decode cX2_kindsOf 59 = .ok (.iconst 0, 1) := by decide +kernel
theorem dX2_kindsOf_60 : decode cX2_kindsOf 60 = .ok (.istore 5, 2) := by decide +kernel
theorem dX2_kindsOf_62 : decode cX2_kindsOf 62 = .ok (.iinc 6 1, 3) := by decide +kernel
theorem dX2_kindsOf_65 : decode cX2_kindsOf 65 = .ok (.goto (-48), 3) := by decide +kernel
theorem dX2_kindsOf_68 : decode cX2_kindsOf 68 = .ok (.iload 5, 2) := by decide +kernel
theorem dX2_kindsOf_70 : decode cX2_kindsOf 70 = .ok (.ifCond .eq 10, 3) := by decide +kernel
theorem dX2_kindsOf_73 : decode cX2_kindsOf 73 = .ok (.iload_n 3, 1) := by decide +kernel
theorem dX2_kindsOf_74 : decode cX2_kindsOf 74 = .ok (.iconst 1, 1) := by decide +kernel
theorem dX2_kindsOf_75 : decode cX2_kindsOf 75 = .ok (.iload 4, 2) := by decide +kernel
theorem dX2_kindsOf_77 : decode cX2_kindsOf 77 = .ok (.ishl, 1) := by decide +kernel
theorem dX2_kindsOf_78 : decode cX2_kindsOf 78 = .ok (.ior, 1) := by decide +kernel
theorem dX2_kindsOf_79 : decode cX2_kindsOf 79 = .ok (.istore_n 3, 1) := by decide +kernel
theorem dX2_kindsOf_80 : decode cX2_kindsOf 80 = .ok (.iinc 4 1, 3) := by decide +kernel
theorem dX2_kindsOf_83 : decode cX2_kindsOf 83 = .ok (.goto (-78), 3) := by decide +kernel
theorem dX2_kindsOf_86 : decode cX2_kindsOf 86 = .ok (.iload_n 3, 1) := by decide +kernel
theorem dX2_kindsOf_87 : decode cX2_kindsOf 87 = .ok (.ireturn, 1) := by decide +kernel
set_option maxRecDepth 20000 in
theorem ggX2_judgeToTry_X2_greatestPart : GoodIn wsX2_judgeToTry wsX2_greatestPart := goodIn_r _ [6, 7, 8, 9, 10, 11, 12, 13, 14, 15, 16, 17, 18, 19, 20, 21, 22, 23, 24, 25, 26, 27, 28, 29, 30, 31, 46, 47, 48, 49, 32, 33, 34, 35, 36, 37, 38, 39, 40, 41, 42, 43, 44, 45] (by decide +kernel) (by decide +kernel)
set_option maxRecDepth 20000 in
theorem gX2_judgeToTry_X2_greatestPart : GoodIn wsX2_judgeToTry (wsV RX2 61 RX2 yX2_greatestPart wsX2_greatestPart) := goodIn_app (goodIn_of _ (by decide +kernel)) ggX2_judgeToTry_X2_greatestPart
theorem dX2_judgeToTry_0 : decode cX2_judgeToTry 0 = .ok (.bipush (-4), 2) := by decide +kernel
theorem dX2_judgeToTry_2 : decode cX2_judgeToTry 2 = .ok (.istore 4, 2) := by decide +kernel
theorem dX2_judgeToTry_4 : decode cX2_judgeToTry 4 = .ok (.iconst 0, 1) := by decide +kernel
theorem dX2_judgeToTry_5 : decode cX2_judgeToTry 5 = .ok (.istore 5, 2) := by decide +kernel
theorem dX2_judgeToTry_7 : decode cX2_judgeToTry 7 = .ok (.iconst 0, 1) := by decide +kernel
theorem dX2_judgeToTry_8 : decode cX2_judgeToTry 8 = .ok (.istore 6, 2) := by decide +kernel
theorem dX2_judgeToTry_10 : decode cX2_judgeToTry 10 = .ok (.iload 6, 2) := by decide +kernel
theorem dX2_judgeToTry_12 : decode cX2_judgeToTry 12 = .ok (.aload_n 1, 1) := by decide +kernel
theorem dX2_judgeToTry_13 : decode cX2_judgeToTry 13 = .ok (.getfield 58, 3) := by decide +kernel
theorem dX2_judgeToTry_16 : decode cX2_judgeToTry 16 = .ok (.if_icmp .ge 46, 3) := by decide +kernel
theorem dX2_judgeToTry_19 : decode cX2_judgeToTry 19 = .ok (.iload_n 3, 1) := by decide +kernel
theorem dX2_judgeToTry_20 : decode cX2_judgeToTry 20 = .ok (.ifCond .eq 42, 3) := by decide +kernel
theorem dX2_judgeToTry_23 : decode cX2_judgeToTry 23 = .ok (.aload_n 0, 1) := by decide +kernel
theorem dX2_judgeToTry_24 : decode cX2_judgeToTry 24 = .ok (.aload_n 1, 1) := by decide +kernel
theorem dX2_judgeToTry_25 : decode cX2_judgeToTry 25 = .ok (.iload_n 2, 1) := by decide +kernel
theorem dX2_judgeToTry_26 : decode cX2_judgeToTry 26 = .ok (.iload 6, 2) := by decide +kernel
theorem dX2_judgeToTry_28 : decode cX2_judgeToTry 28 = .ok (.iload_n 3, 1) := by decide +kernel
theorem dX2_judgeToTry_29 : decode cX2_judgeToTry 29 = .ok (.invokevirtual 61, 3) := by decide +kernel
theorem dX2_judgeToTry_32 : decode cX2_judgeToTry 32 = .ok (.istore 7, 2) := by decide +kernel
theorem dX2_judgeToTry_34 : decode cX2_judgeToTry 34 = .ok (.iload 4, 2) := by decide +kernel
theorem dX2_judgeToTry_36 : decode cX2_judgeToTry 36 = .ok (.bipush (-4), 2) := by decide +kernel
theorem dX2_judgeToTry_38 : decode cX2_judgeToTry 38 = .ok (.if_icmp .eq 10, 3) := by decide +kernel
theorem dX2_judgeToTry_41 : decode cX2_judgeToTry 41 = .ok (.iload 7, 2) := by decide +kernel
theorem dX2_judgeToTry_43 : decode cX2_judgeToTry 43 = .ok (.iload 5, 2) := by decide +kernel
theorem dX2_judgeToTry_45 : decode cX2_judgeToTry 45 = .ok (.if_icmp .ge 11, 3) := by decide +kernel
theorem dX2_judgeToTry_48 : decode cX2_judgeToTry 48 = .ok (.iload 6, 2) := by decide +kernel
theorem dX2_judgeToTry_50 : decode cX2_judgeToTry 50 = .ok (.istore 4, 2) := by decide +kernel
theorem dX2_judgeToTry_52 : decode cX2_judgeToTry 52 = .ok (.iload 7, 2) := by decide +kernel
theorem dX2_judgeToTry_54 : decode cX2_judgeToTry 54 = .ok (.istore 5, 2) := by decide +kernel
theorem dX2_judgeToTry_56 : decode cX2_judgeToTry 56 = .ok (.iinc 6 1, 3) := by decide +kernel
theorem dX2_judgeToTry_59 : decode cX2_judgeToTry 59 = .ok (.goto (-49), 3) := by decide +kernel
theorem dX2_judgeToTry_62 : decode cX2_judgeToTry 62 = .ok (.iload 4, 2) := by decide +kernel
theorem dX2_judgeToTry_64 : decode cX2_judgeToTry 64 = .ok (.ireturn, 1) := by decide +kernel
set_option maxRecDepth 20000 in
theorem ggX2_greatestPart_J7_fill_53178 : GoodIn wsX2_greatestPart wsJ7_fill_53178 := goodIn_r _ [9] (by decide +kernel) (by decide +kernel)
set_option maxRecDepth 20000 in
theorem gX2_greatestPart_J7_fill_53178 : GoodIn wsX2_greatestPart (va_wsS RX2 65 yJ7_fill_53178 wsJ7_fill_53178) := goodIn_app (goodIn_of _ (by decide +kernel)) ggX2_greatestPart_J7_fill_53178
set_option maxRecDepth 20000 in
theorem ggX2_greatestPart_X1_namedAs : GoodIn wsX2_greatestPart wsX1_namedAs := goodIn_r _ [14, 15, 16, 17, 18, 13, 19, 20, 21, 22, 23, 24, 25, 30, 31, 32, 33, 34, 35, 36, 37, 38, 39, 40, 41, 42, 43] (by decide +kernel) (by decide +kernel)
set_option maxRecDepth 20000 in
theorem gX2_greatestPart_X1_namedAs : GoodIn wsX2_greatestPart (wsV RX2 54 RX1 yX1_namedAs wsX1_namedAs) := goodIn_app (goodIn_of _ (by decide +kernel)) ggX2_greatestPart_X1_namedAs
theorem dX2_greatestPart_0 : decode cX2_greatestPart 0 = .ok (.aload_n 0, 1) := by decide +kernel
theorem dX2_greatestPart_1 : decode cX2_greatestPart 1 = .ok (.getfield 18, 3) := by decide +kernel
theorem dX2_greatestPart_4 : decode cX2_greatestPart 4 = .ok (.iconst 0, 1) := by decide +kernel
theorem dX2_greatestPart_5 : decode cX2_greatestPart 5 = .ok (.invokestatic 65, 3) := by decide +kernel
theorem dX2_greatestPart_8 : decode cX2_greatestPart 8 = .ok (.iconst 0, 1) := by decide +kernel
theorem dX2_greatestPart_9 : decode cX2_greatestPart 9 = .ok (.istore 5, 2) := by decide +kernel
theorem dX2_greatestPart_11 : decode cX2_greatestPart 11 = .ok (.iconst 1, 1) := by decide +kernel
theorem dX2_greatestPart_12 : decode cX2_greatestPart 12 = .ok (.istore 6, 2) := by decide +kernel
theorem dX2_greatestPart_14 : decode cX2_greatestPart 14 = .ok (.iload 6, 2) := by decide +kernel
theorem dX2_greatestPart_16 : decode cX2_greatestPart 16 = .ok (.iconst 5, 1) := by decide +kernel
theorem dX2_greatestPart_17 : decode cX2_greatestPart 17 = .ok (.if_icmp .gt 55, 3) := by decide +kernel
theorem dX2_greatestPart_20 : decode cX2_greatestPart 20 = .ok (.iload 4, 2) := by decide +kernel
theorem dX2_greatestPart_22 : decode cX2_greatestPart 22 = .ok (.iload 6, 2) := by decide +kernel
theorem dX2_greatestPart_24 : decode cX2_greatestPart 24 = .ok (.ishr, 1) := by decide +kernel
theorem dX2_greatestPart_25 : decode cX2_greatestPart 25 = .ok (.iconst 1, 1) := by decide +kernel
theorem dX2_greatestPart_26 : decode cX2_greatestPart 26 = .ok (.iand, 1) := by decide +kernel
theorem dX2_greatestPart_27 : decode cX2_greatestPart 27 = .ok (.iconst 1, 1) := by decide +kernel
theorem dX2_greatestPart_28 : decode cX2_greatestPart 28 = .ok (.if_icmp .ne 38, 3) := by decide +kernel
theorem dX2_greatestPart_31 : decode cX2_greatestPart 31 = .ok (.aload_n 1, 1) := by decide +kernel
theorem dX2_greatestPart_32 : decode cX2_greatestPart 32 = .ok (.iload_n 2, 1) := by decide +kernel
theorem dX2_greatestPart_33 : decode cX2_greatestPart 33 = .ok (.iload 6, 2) := by decide +kernel
theorem dX2_greatestPart_35 : decode cX2_greatestPart 35 = .ok (.iload_n 3, 1) := by decide +kernel
theorem dX2_greatestPart_36 : decode cX2_greatestPart 36 = .ok (.invokevirtual 54, 3) := by decide +kernel
theorem dX2_greatestPart_39 : decode cX2_greatestPart 39 = .ok (.istore 7, 2) := by decide +kernel
theorem dX2_greatestPart_41 : decode cX2_greatestPart 41 = .ok (.aload_n 0, 1) := by decide +kernel
theorem dX2_greatestPart_42 : decode cX2_greatestPart 42 = .ok (.getfield 18, 3) := by decide +kernel
theorem dX2_greatestPart_45 : decode cX2_greatestPart 45 = .ok (.iload 7, 2) := by decide +kernel
theorem dX2_greatestPart_47 : decode cX2_greatestPart 47 = .ok (.dup2, 1) := by decide +kernel
theorem dX2_greatestPart_48 : decode cX2_greatestPart 48 = .ok (.iaload, 1) := by decide +kernel
theorem dX2_greatestPart_49 : decode cX2_greatestPart 49 = .ok (.iconst 1, 1) := by decide +kernel
theorem dX2_greatestPart_50 : decode cX2_greatestPart 50 = .ok (.iadd, 1) := by decide +kernel
theorem dX2_greatestPart_51 : decode cX2_greatestPart 51 = .ok (.iastore, 1) := by decide +kernel
theorem dX2_greatestPart_52 : decode cX2_greatestPart 52 = .ok (.iload 5, 2) := by decide +kernel
theorem dX2_greatestPart_54 : decode cX2_greatestPart 54 = .ok (.aload_n 0, 1) := by decide +kernel
theorem dX2_greatestPart_55 : decode cX2_greatestPart 55 = .ok (.getfield 18, 3) := by decide +kernel
theorem dX2_greatestPart_58 : decode cX2_greatestPart 58 = .ok (.iload 7, 2) := by decide +kernel
theorem dX2_greatestPart_60 : decode cX2_greatestPart 60 = .ok (.iaload, 1) := by decide +kernel
theorem dX2_greatestPart_61 : decode cX2_greatestPart 61 = .ok (.invokestatic 49, 3) := by decide +kernel
theorem dX2_greatestPart_64 : decode cX2_greatestPart 64 = .ok (.istore 5, 2) := by decide +kernel
theorem dX2_greatestPart_66 : decode cX2_greatestPart 66 = .ok (.iinc 6 1, 3) := by decide +kernel
theorem dX2_greatestPart_69 : decode cX2_greatestPart 69 = .ok (.goto (-55), 3) := by decide +kernel
theorem dX2_greatestPart_72 : decode cX2_greatestPart 72 = .ok (.iload 5, 2) := by decide +kernel
theorem dX2_greatestPart_74 : decode cX2_greatestPart 74 = .ok (.ireturn, 1) := by decide +kernel
theorem dX3_init_0 : decode cX3_init 0 = .ok (.aload_n 0, 1) := by decide +kernel
theorem dX3_init_1 : decode cX3_init 1 = .ok (.invokespecial 3, 3) := by decide +kernel
theorem dX3_init_4 : decode cX3_init 4 = .ok (.aload_n 0, 1) := by decide +kernel
theorem dX3_init_5 : decode cX3_init 5 = .ok (.bipush 6, 2) := by decide +kernel
theorem dX3_init_7 : decode cX3_init 7 = .ok (.newarray .int, 2) := by decide +kernel
theorem dX3_init_9 : decode cX3_init 9 = .ok (.putfield 9, 3) := by decide +kernel
theorem dX3_init_12 : decode cX3_init 12 = .ok (.aload_n 0, 1) := by decide +kernel
theorem dX3_init_13 : decode cX3_init 13 = .ok (.bipush 6, 2) := by decide +kernel
theorem dX3_init_15 : decode cX3_init 15 = .ok (.newarray .int, 2) := by decide +kernel
theorem dX3_init_17 : decode cX3_init 17 = .ok (.putfield 15, 3) := by decide +kernel
theorem dX3_init_20 : decode cX3_init 20 = .ok (.aload_n 0, 1) := by decide +kernel
theorem dX3_init_21 : decode cX3_init 21 = .ok (.bipush 36, 2) := by decide +kernel
theorem dX3_init_23 : decode cX3_init 23 = .ok (.newarray .int, 2) := by decide +kernel
theorem dX3_init_25 : decode cX3_init 25 = .ok (.putfield 18, 3) := by decide +kernel
theorem dX3_init_28 : decode cX3_init 28 = .ok (.aload_n 0, 1) := by decide +kernel
theorem dX3_init_29 : decode cX3_init 29 = .ok (.bipush 36, 2) := by decide +kernel
theorem dX3_init_31 : decode cX3_init 31 = .ok (.newarray .int, 2) := by decide +kernel
theorem dX3_init_33 : decode cX3_init 33 = .ok (.putfield 21, 3) := by decide +kernel
theorem dX3_init_36 : decode cX3_init 36 = .ok (.aload_n 0, 1) := by decide +kernel
theorem dX3_init_37 : decode cX3_init 37 = .ok (.sipush 384, 3) := by decide +kernel
theorem dX3_init_40 : decode cX3_init 40 = .ok (.newarray .int, 2) := by decide +kernel
theorem dX3_init_42 : decode cX3_init 42 = .ok (.putfield 24, 3) := by decide +kernel
theorem dX3_init_45 : decode cX3_init 45 = .ok (.aload_n 0, 1) := by decide +kernel
theorem dX3_init_46 : decode cX3_init 46 = .ok (.bipush 6, 2) := by decide +kernel
theorem dX3_init_48 : decode cX3_init 48 = .ok (.newarray .int, 2) := by decide +kernel
theorem dX3_init_50 : decode cX3_init 50 = .ok (.putfield 27, 3) := by decide +kernel
theorem dX3_init_53 : decode cX3_init 53 = .ok (.aload_n 0, 1) := by decide +kernel
theorem dX3_init_54 : decode cX3_init 54 = .ok (.bipush 6, 2) := by decide +kernel
theorem dX3_init_56 : decode cX3_init 56 = .ok (.newarray .int, 2) := by decide +kernel
theorem dX3_init_58 : decode cX3_init 58 = .ok (.putfield 30, 3) := by decide +kernel
theorem dX3_init_61 : decode cX3_init 61 = .ok (.aload_n 0, 1) := by decide +kernel
theorem dX3_init_62 : decode cX3_init 62 = .ok (.bipush 6, 2) := by decide +kernel
theorem dX3_init_64 : decode cX3_init 64 = .ok (.newarray .int, 2) := by decide +kernel
theorem dX3_init_66 : decode cX3_init 66 = .ok (.putfield 33, 3) := by decide +kernel
theorem dX3_init_69 : decode cX3_init 69 = .ok (.return_, 1) := by decide +kernel
theorem dX3_moveOn_0 : decode cX3_moveOn 0 = .ok (.aload_n 0, 1) := by decide +kernel
theorem dX3_moveOn_1 : decode cX3_moveOn 1 = .ok (.getfield 15, 3) := by decide +kernel
theorem dX3_moveOn_4 : decode cX3_moveOn 4 = .ok (.iconst 0, 1) := by decide +kernel
theorem dX3_moveOn_5 : decode cX3_moveOn 5 = .ok (.aload_n 0, 1) := by decide +kernel
theorem dX3_moveOn_6 : decode cX3_moveOn 6 = .ok (.getfield 9, 3) := by decide +kernel
theorem dX3_moveOn_9 : decode cX3_moveOn 9 = .ok (.iconst 0, 1) := by decide +kernel
theorem dX3_moveOn_10 : decode cX3_moveOn 10 = .ok (.bipush 6, 2) := by decide +kernel
theorem dX3_moveOn_12 : decode cX3_moveOn 12 = .ok (.invokestatic 36, 3) := by decide +kernel
theorem dX3_moveOn_15 : decode cX3_moveOn 15 = .ok (.return_, 1) := by decide +kernel
set_option maxRecDepth 20000 in
theorem ggX3_fewestThrows_J7_fill_53178 : GoodIn wsX3_fewestThrows wsJ7_fill_53178 := goodIn_r _ [14] (by decide +kernel) (by decide +kernel)
set_option maxRecDepth 20000 in
theorem gX3_fewestThrows_J7_fill_53178 : GoodIn wsX3_fewestThrows (va_wsS RX3 43 yJ7_fill_53178 wsJ7_fill_53178) := goodIn_app (goodIn_of _ (by decide +kernel)) ggX3_fewestThrows_J7_fill_53178
set_option maxRecDepth 20000 in
theorem ggX3_fewestThrows_X3_spreadThrows : GoodIn wsX3_fewestThrows wsX3_spreadThrows := goodIn_r _ [19, 1, 2, 5, 7, 8, 9, 10, 20, 21, 22, 23, 24, 25, 26, 27, 28, 29, 30, 31, 32, 33, 34, 35, 36, 37, 38, 39, 40, 41, 42, 43, 44, 45, 46, 47, 48, 49, 50, 51, 52, 53, 54, 55, 56, 57, 58, 59, 60, 61, 62, 63, 72, 73, 74, 75, 76, 77, 78, 79, 80, 81, 82, 83, 84, 85, 86, 87, 88, 89, 90, 91, 92, 93] (by decide +kernel) (by decide +kernel)
set_option maxRecDepth 20000 in
theorem gX3_fewestThrows_X3_spreadThrows : GoodIn wsX3_fewestThrows (wsV RX3 61 RX3 yX3_spreadThrows wsX3_spreadThrows) := goodIn_app (goodIn_of _ (by decide +kernel)) ggX3_fewestThrows_X3_spreadThrows
set_option maxRecDepth 20000 in
theorem ggX3_fewestThrows_X3_moveOn : GoodIn wsX3_fewestThrows wsX3_moveOn := goodIn_r _ [67, 5, 1, 68, 69, 70, 71, 72, 73, 74, 75, 76, 77, 78, 79] (by decide +kernel) (by decide +kernel)
set_option maxRecDepth 20000 in
theorem gX3_fewestThrows_X3_moveOn : GoodIn wsX3_fewestThrows (wsV RX3 65 RX3 yX3_moveOn wsX3_moveOn) := goodIn_app (goodIn_of _ (by decide +kernel)) ggX3_fewestThrows_X3_moveOn
set_option maxRecDepth 20000 in
theorem ggX3_fewestThrows_X1_winnerBefore : GoodIn wsX3_fewestThrows wsX1_winnerBefore := goodIn_r _ [24, 25, 26, 27, 28, 29, 30, 23, 31, 32, 33, 80, 81, 82, 83, 84, 85, 86, 87, 88, 89, 90, 91, 92, 93] (by decide +kernel) (by decide +kernel)
set_option maxRecDepth 20000 in
theorem gX3_fewestThrows_X1_winnerBefore : GoodIn wsX3_fewestThrows (wsV RX3 68 RX1 yX1_winnerBefore wsX1_winnerBefore) := goodIn_app (goodIn_of _ (by decide +kernel)) ggX3_fewestThrows_X1_winnerBefore
theorem dX3_fewestThrows_0 : decode cX3_fewestThrows 0 = .ok (.aload_n 0, 1) := by decide +kernel
theorem dX3_fewestThrows_1 : decode cX3_fewestThrows 1 = .ok (.getfield 9, 3) := by decide +kernel
theorem dX3_fewestThrows_4 : decode cX3_fewestThrows 4 = .ok (.ldc 42, 2) := by decide +kernel
theorem dX3_fewestThrows_6 : decode cX3_fewestThrows 6 = .ok (.invokestatic 43, 3) := by decide +kernel
theorem dX3_fewestThrows_9 : decode cX3_fewestThrows 9 = .ok (.aload_n 0, 1) := by decide +kernel
theorem dX3_fewestThrows_10 : decode cX3_fewestThrows 10 = .ok (.getfield 9, 3) := by decide +kernel
theorem dX3_fewestThrows_13 : decode cX3_fewestThrows 13 = .ok (.aload_n 1, 1) := by decide +kernel
theorem dX3_fewestThrows_14 : decode cX3_fewestThrows 14 = .ok (.getfield 49, 3) := by decide +kernel
theorem dX3_fewestThrows_17 : decode cX3_fewestThrows 17 = .ok (.iconst 0, 1) := by decide +kernel
theorem dX3_fewestThrows_18 : decode cX3_fewestThrows 18 = .ok (.iastore, 1) := by decide +kernel
theorem dX3_fewestThrows_19 : decode cX3_fewestThrows 19 = .ok (.aload_n 1, 1) := by decide +kernel
theorem dX3_fewestThrows_20 : decode cX3_fewestThrows 20 = .ok (.getfield 55, 3) := by decide +kernel
theorem dX3_fewestThrows_23 : decode cX3_fewestThrows 23 = .ok (.istore 4, 2) := by decide +kernel
theorem dX3_fewestThrows_25 : decode cX3_fewestThrows 25 = .ok (.iload 4, 2) := by decide +kernel
theorem dX3_fewestThrows_27 : decode cX3_fewestThrows 27 = .ok (.iload_n 3, 1) := by decide +kernel
theorem dX3_fewestThrows_28 : decode cX3_fewestThrows 28 = .ok (.if_icmp .ge 50, 3) := by decide +kernel
theorem dX3_fewestThrows_31 : decode cX3_fewestThrows 31 = .ok (.aload_n 0, 1) := by decide +kernel
theorem dX3_fewestThrows_32 : decode cX3_fewestThrows 32 = .ok (.getfield 15, 3) := by decide +kernel
theorem dX3_fewestThrows_35 : decode cX3_fewestThrows 35 = .ok (.ldc 42, 2) := by decide +kernel
theorem dX3_fewestThrows_37 : decode cX3_fewestThrows 37 = .ok (.invokestatic 43, 3) := by decide +kernel
theorem dX3_fewestThrows_40 : decode cX3_fewestThrows 40 = .ok (.iconst 0, 1) := by decide +kernel
theorem dX3_fewestThrows_41 : decode cX3_fewestThrows 41 = .ok (.istore 5, 2) := by decide +kernel
theorem dX3_fewestThrows_43 : decode cX3_fewestThrows 43 = .ok (.iload 5, 2) := by decide +kernel
theorem dX3_fewestThrows_45 : decode cX3_fewestThrows 45 = .ok (.aload_n 1, 1) := by decide +kernel
theorem dX3_fewestThrows_46 : decode cX3_fewestThrows 46 = .ok (.getfield 58, 3) := by decide +kernel
theorem dX3_fewestThrows_49 : decode cX3_fewestThrows 49 = .ok (.if_icmp .ge 19, 3) := by decide +kernel
theorem dX3_fewestThrows_52 : decode cX3_fewestThrows 52 = .ok (.aload_n 0, 1) := by decide +kernel
theorem dX3_fewestThrows_53 : decode cX3_fewestThrows 53 = .ok (.aload_n 1, 1) := by decide +kernel
theorem dX3_fewestThrows_54 : decode cX3_fewestThrows 54 = .ok (.iload_n 2, 1) := by decide +kernel
theorem dX3_fewestThrows_55 : decode cX3_fewestThrows 55 = .ok (.iload 4, 2) := by decide +kernel
theorem dX3_fewestThrows_57 : decode cX3_fewestThrows 57 = .ok (.iload 5, 2) := by decide +kernel
theorem dX3_fewestThrows_59 : decode cX3_fewestThrows 59 = .ok (.invokevirtual 61, 3) := by decide +kernel
theorem dX3_fewestThrows_62 : decode cX3_fewestThrows 62 = .ok (.iinc 5 1, 3) := by decide +kernel
theorem dX3_fewestThrows_65 : decode cX3_fewestThrows 65 = .ok (.goto (-22), 3) := by decide +kernel
theorem dX3_fewestThrows_68 : decode cX3_fewestThrows 68 = .ok (.aload_n 0, 1) := by decide +kernel
theorem dX3_fewestThrows_69 : decode cX3_fewestThrows 69 = .ok (.invokevirtual 65, 3) := by decide +kernel
theorem dX3_fewestThrows_72 : decode cX3_fewestThrows 72 = .ok (.iinc 4 1, 3) := by decide +kernel
theorem dX3_fewestThrows_75 : decode cX3_fewestThrows 75 = .ok (.goto (-50), 3) := by decide +kernel
theorem dX3_fewestThrows_78 : decode cX3_fewestThrows 78 = .ok (.ldc 42, 2) := by decide +kernel
theorem dX3_fewestThrows_80 : decode cX3_fewestThrows 80 = .ok (.istore 4, 2) := by decide +kernel
theorem dX3_fewestThrows_82 : decode cX3_fewestThrows 82 = .ok (.iconst 0, 1) := by decide +kernel
theorem dX3_fewestThrows_83 : decode cX3_fewestThrows 83 = .ok (.istore 5, 2) := by decide +kernel
theorem dX3_fewestThrows_85 : decode cX3_fewestThrows 85 = .ok (.iload 5, 2) := by decide +kernel
theorem dX3_fewestThrows_87 : decode cX3_fewestThrows 87 = .ok (.aload_n 1, 1) := by decide +kernel
theorem dX3_fewestThrows_88 : decode cX3_fewestThrows 88 = .ok (.getfield 58, 3) := by decide +kernel
theorem dX3_fewestThrows_91 : decode cX3_fewestThrows 91 = .ok (.if_icmp .ge 34, 3) := by decide +kernel
theorem dX3_fewestThrows_94 : decode cX3_fewestThrows 94 = .ok (.aload_n 1, 1) := by decide +kernel
theorem dX3_fewestThrows_95 : decode cX3_fewestThrows 95 = .ok (.iload 5, 2) := by decide +kernel
theorem dX3_fewestThrows_97 : decode cX3_fewestThrows 97 = .ok (.iload_n 3, 1) := by decide +kernel
theorem dX3_fewestThrows_98 : decode cX3_fewestThrows 98 = .ok (.invokevirtual 68, 3) := by decide +kernel
theorem dX3_fewestThrows_101 : decode cX3_fewestThrows 101 = .ok (.iload_n 2, 1) := by decide +kernel
theorem dX3_fewestThrows_102 : decode cX3_fewestThrows 102 = .ok (.if_icmp .ne 17, 3) := by decide +kernel
theorem dX3_fewestThrows_105 : decode cX3_fewestThrows 105 = .ok (.iload 4, 2) := by decide +kernel
theorem dX3_fewestThrows_107 : decode cX3_fewestThrows 107 = .ok (.aload_n 0, 1) := by decide +kernel
theorem dX3_fewestThrows_108 : decode cX3_fewestThrows 108 = .ok (.getfield 9, 3) := by decide +kernel
theorem dX3_fewestThrows_111 : decode cX3_fewestThrows 111 = .ok (.iload 5, 2) := by decide +kernel
theorem dX3_fewestThrows_113 : decode cX3_fewestThrows 113 = .ok (.iaload, 1) := by decide +kernel
theorem dX3_fewestThrows_114 : decode cX3_fewestThrows 114 = .ok (.invokestatic 72, 3) := by decide +kernel
theorem dX3_fewestThrows_117 : decode cX3_fewestThrows 117 = .ok (.istore 4, 2) := by decide +kernel
theorem dX3_fewestThrows_119 : decode cX3_fewestThrows 119 = .ok (.iinc 5 1, 3) := by decide +kernel
theorem dX3_fewestThrows_122 : decode cX3_fewestThrows 122 = .ok (.goto (-37), 3) := by decide +kernel
theorem dX3_fewestThrows_125 : decode cX3_fewestThrows 125 = .ok (.iload 4, 2) := by decide +kernel
theorem dX3_fewestThrows_127 : decode cX3_fewestThrows 127 = .ok (.ldc 42, 2) := by decide +kernel
theorem dX3_fewestThrows_129 : decode cX3_fewestThrows 129 = .ok (.if_icmp .lt 8, 3) := by decide +kernel
theorem dX3_fewestThrows_132 : decode cX3_fewestThrows 132 = .ok (.bipush (-4), 2) := by decide +kernel
theorem dX3_fewestThrows_134 : decode cX3_fewestThrows 134 = .ok (.goto 9, 3) := by decide +kernel
theorem dX3_fewestThrows_137 : decode cX3_fewestThrows 137 = .ok (.iload 4, 2) := by decide +kernel
theorem dX3_fewestThrows_139 : decode cX3_fewestThrows 139 = .ok (.sipush 4096, 3) := by decide +kernel
theorem dX3_fewestThrows_142 : decode cX3_fewestThrows 142 = .ok (.irem, 1) := by decide +kernel
theorem dX3_fewestThrows_143 : decode cX3_fewestThrows 143 = .ok (.ireturn, 1) := by decide +kernel
set_option maxRecDepth 20000 in
theorem ggX3_spreadThrows_X1_winnerBefore : GoodIn wsX3_spreadThrows wsX1_winnerBefore := goodIn_r _ [12, 13, 14, 15, 16, 17, 18, 11, 19, 20, 21, 60, 61, 62, 63, 64, 65, 66, 67, 68, 69, 70, 71, 72, 73] (by decide +kernel) (by decide +kernel)
set_option maxRecDepth 20000 in
theorem gX3_spreadThrows_X1_winnerBefore : GoodIn wsX3_spreadThrows (wsV RX3 68 RX1 yX1_winnerBefore wsX1_winnerBefore) := goodIn_app (goodIn_of _ (by decide +kernel)) ggX3_spreadThrows_X1_winnerBefore
set_option maxRecDepth 20000 in
theorem ggX3_spreadThrows_X1_sitsAfter : GoodIn wsX3_spreadThrows wsX1_sitsAfter := goodIn_r _ [25, 26, 27, 28, 29, 11, 30, 14, 15, 31, 32, 33, 34, 35, 36, 37, 38, 39, 40, 41, 42, 43, 13, 21, 60, 61, 62, 63, 64, 65, 66, 67, 68, 69, 70, 71, 72, 73] (by decide +kernel) (by decide +kernel)
set_option maxRecDepth 20000 in
theorem gX3_spreadThrows_X1_sitsAfter : GoodIn wsX3_spreadThrows (wsV RX3 77 RX1 yX1_sitsAfter wsX1_sitsAfter) := goodIn_app (goodIn_of _ (by decide +kernel)) ggX3_spreadThrows_X1_sitsAfter
set_option maxRecDepth 20000 in
theorem ggX3_spreadThrows_X1_isOwn : GoodIn wsX3_spreadThrows wsX1_isOwn := goodIn_r _ [47, 14, 15, 60, 61, 62, 63, 64, 65, 66, 67, 68, 69, 70, 71, 72, 73] (by decide +kernel) (by decide +kernel)
set_option maxRecDepth 20000 in
theorem gX3_spreadThrows_X1_isOwn : GoodIn wsX3_spreadThrows (wsV RX3 81 RX1 yX1_isOwn wsX1_isOwn) := goodIn_app (goodIn_of _ (by decide +kernel)) ggX3_spreadThrows_X1_isOwn
set_option maxRecDepth 20000 in
theorem ggX3_spreadThrows_X1_namedBy : GoodIn wsX3_spreadThrows wsX1_namedBy := goodIn_r _ [51, 26, 31, 32, 33, 11, 34, 35, 36, 37, 38, 39, 40, 41, 42, 43, 13, 21, 60, 61, 62, 63, 64, 65, 66, 67, 68, 69, 70, 71, 72, 73] (by decide +kernel) (by decide +kernel)
set_option maxRecDepth 20000 in
theorem gX3_spreadThrows_X1_namedBy : GoodIn wsX3_spreadThrows (wsV RX3 85 RX1 yX1_namedBy wsX1_namedBy) := goodIn_app (goodIn_of _ (by decide +kernel)) ggX3_spreadThrows_X1_namedBy
theorem dX3_spreadThrows_0 : decode cX3_spreadThrows 0 = .ok (.aload_n 0, 1) := by decide +kernel
theorem dX3_spreadThrows_1 : decode cX3_spreadThrows 1 = .ok (.getfield 9, 3) := by decide +kernel
theorem dX3_spreadThrows_4 : decode cX3_spreadThrows 4 = .ok (.iload 4, 2) := by decide +kernel
theorem dX3_spreadThrows_6 : decode cX3_spreadThrows 6 = .ok (.iaload, 1) := by decide +kernel
theorem dX3_spreadThrows_7 : decode cX3_spreadThrows 7 = .ok (.ldc 42, 2) := by decide +kernel
theorem dX3_spreadThrows_9 : decode cX3_spreadThrows 9 = .ok (.if_icmp .lt 4, 3) := by decide +kernel
theorem dX3_spreadThrows_12 : decode cX3_spreadThrows 12 = .ok (.return_, 1) := by decide +kernel
theorem dX3_spreadThrows_13 : decode cX3_spreadThrows 13 = .ok (.aload_n 1, 1) := by decide +kernel
theorem dX3_spreadThrows_14 : decode cX3_spreadThrows 14 = .ok (.iload 4, 2) := by decide +kernel
theorem dX3_spreadThrows_16 : decode cX3_spreadThrows 16 = .ok (.iload_n 3, 1) := by decide +kernel
theorem dX3_spreadThrows_17 : decode cX3_spreadThrows 17 = .ok (.aload_n 1, 1) := by decide +kernel
theorem dX3_spreadThrows_18 : decode cX3_spreadThrows 18 = .ok (.iload 4, 2) := by decide +kernel
theorem dX3_spreadThrows_20 : decode cX3_spreadThrows 20 = .ok (.iload_n 3, 1) := by decide +kernel
theorem dX3_spreadThrows_21 : decode cX3_spreadThrows 21 = .ok (.invokevirtual 68, 3) := by decide +kernel
theorem dX3_spreadThrows_24 : decode cX3_spreadThrows 24 = .ok (.invokevirtual 77, 3) := by decide +kernel
theorem dX3_spreadThrows_27 : decode cX3_spreadThrows 27 = .ok (.istore 5, 2) := by decide +kernel
theorem dX3_spreadThrows_29 : decode cX3_spreadThrows 29 = .ok (.aload_n 0, 1) := by decide +kernel
theorem dX3_spreadThrows_30 : decode cX3_spreadThrows 30 = .ok (.getfield 15, 3) := by decide +kernel
theorem dX3_spreadThrows_33 : decode cX3_spreadThrows 33 = .ok (.iload 5, 2) := by decide +kernel
theorem dX3_spreadThrows_35 : decode cX3_spreadThrows 35 = .ok (.aload_n 0, 1) := by decide +kernel
theorem dX3_spreadThrows_36 : decode cX3_spreadThrows 36 = .ok (.getfield 15, 3) := by decide +kernel
theorem dX3_spreadThrows_39 : decode cX3_spreadThrows 39 = .ok (.iload 5, 2) := by decide +kernel
theorem dX3_spreadThrows_41 : decode cX3_spreadThrows 41 = .ok (.iaload, 1) := by decide +kernel
theorem dX3_spreadThrows_42 : decode cX3_spreadThrows 42 = .ok (.aload_n 0, 1) := by decide +kernel
theorem dX3_spreadThrows_43 : decode cX3_spreadThrows 43 = .ok (.getfield 9, 3) := by decide +kernel
theorem dX3_spreadThrows_46 : decode cX3_spreadThrows 46 = .ok (.iload 4, 2) := by decide +kernel
theorem dX3_spreadThrows_48 : decode cX3_spreadThrows 48 = .ok (.iaload, 1) := by decide +kernel
theorem dX3_spreadThrows_49 : decode cX3_spreadThrows 49 = .ok (.invokestatic 72, 3) := by decide +kernel
theorem dX3_spreadThrows_52 : decode cX3_spreadThrows 52 = .ok (.iastore, 1) := by decide +kernel
theorem dX3_spreadThrows_53 : decode cX3_spreadThrows 53 = .ok (.aload_n 1, 1) := by decide +kernel
theorem dX3_spreadThrows_54 : decode cX3_spreadThrows 54 = .ok (.iload_n 2, 1) := by decide +kernel
theorem dX3_spreadThrows_55 : decode cX3_spreadThrows 55 = .ok (.iload_n 3, 1) := by decide +kernel
theorem dX3_spreadThrows_56 : decode cX3_spreadThrows 56 = .ok (.invokevirtual 81, 3) := by decide +kernel
theorem dX3_spreadThrows_59 : decode cX3_spreadThrows 59 = .ok (.ifCond .eq 44, 3) := by decide +kernel
theorem dX3_spreadThrows_62 : decode cX3_spreadThrows 62 = .ok (.aload_n 1, 1) := by decide +kernel
theorem dX3_spreadThrows_63 : decode cX3_spreadThrows 63 = .ok (.iload_n 2, 1) := by decide +kernel
theorem dX3_spreadThrows_64 : decode cX3_spreadThrows 64 = .ok (.iload 4, 2) := by decide +kernel
theorem dX3_spreadThrows_66 : decode cX3_spreadThrows 66 = .ok (.invokevirtual 85, 3) := by decide +kernel
theorem dX3_spreadThrows_69 : decode cX3_spreadThrows 69 = .ok (.istore 6, 2) := by decide +kernel
theorem dX3_spreadThrows_71 : decode cX3_spreadThrows 71 = .ok (.aload_n 0, 1) := by decide +kernel
theorem dX3_spreadThrows_72 : decode cX3_spreadThrows 72 = .ok (.getfield 15, 3) := by decide +kernel
theorem dX3_spreadThrows_75 : decode cX3_spreadThrows 75 = .ok (.iload 6, 2) := by decide +kernel
theorem dX3_spreadThrows_77 : decode cX3_spreadThrows 77 = .ok (.aload_n 0, 1) := by decide +kernel
theorem dX3_spreadThrows_78 : decode cX3_spreadThrows 78 = .ok (.getfield 15, 3) := by decide +kernel
theorem dX3_spreadThrows_81 : decode cX3_spreadThrows 81 = .ok (.iload 6, 2) := by decide +kernel
theorem dX3_spreadThrows_83 : decode cX3_spreadThrows 83 = .ok (.iaload, 1) := by decide +kernel
theorem dX3_spreadThrows_84 : decode cX3_spreadThrows 84 = .ok (.aload_n 0, 1) := by decide +kernel
theorem dX3_spreadThrows_85 : decode cX3_spreadThrows 85 = .ok (.getfield 9, 3) := by decide +kernel
theorem dX3_spreadThrows_88 : decode cX3_spreadThrows 88 = .ok (.iload 4, 2) := by decide +kernel
theorem dX3_spreadThrows_90 : decode cX3_spreadThrows 90 = .ok (.iaload, 1) := by decide +kernel
theorem dX3_spreadThrows_91 : decode cX3_spreadThrows 91 = .ok (.sipush 4096, 3) := by decide +kernel
theorem dX3_spreadThrows_94 : decode cX3_spreadThrows 94 = .ok (.iadd, 1) := by decide +kernel
theorem dX3_spreadThrows_95 : decode cX3_spreadThrows 95 = .ok (.iconst 1, 1) := by decide +kernel
theorem dX3_spreadThrows_96 : decode cX3_spreadThrows 96 = .ok (.iload_n 3, 1) := by decide +kernel
theorem dX3_spreadThrows_97 : decode cX3_spreadThrows 97 = .ok (.ishl, 1) := by decide +kernel
theorem dX3_spreadThrows_98 : decode cX3_spreadThrows 98 = .ok (.iadd, 1) := by decide +kernel
theorem dX3_spreadThrows_99 : decode cX3_spreadThrows 99 = .ok (.invokestatic 72, 3) := by decide +kernel
theorem dX3_spreadThrows_102 : decode cX3_spreadThrows 102 = .ok (.iastore, 1) := by decide +kernel
theorem dX3_spreadThrows_103 : decode cX3_spreadThrows 103 = .ok (.return_, 1) := by decide +kernel
set_option maxRecDepth 20000 in
theorem ggX3_contest_J7_fill_53178 : GoodIn wsX3_contest wsJ7_fill_53178 := goodIn_r _ [16] (by decide +kernel) (by decide +kernel)
set_option maxRecDepth 20000 in
theorem gX3_contest_J7_fill_53178 : GoodIn wsX3_contest (va_wsS RX3 43 yJ7_fill_53178 wsJ7_fill_53178) := goodIn_app (goodIn_of _ (by decide +kernel)) ggX3_contest_J7_fill_53178
set_option maxRecDepth 20000 in
theorem ggX3_contest_X1_winnerBefore : GoodIn wsX3_contest wsX1_winnerBefore := goodIn_r _ [21, 22, 23, 24, 25, 26, 27, 20, 28, 29, 30, 79, 80, 81, 82, 83, 84, 85, 86, 87, 88, 89, 90, 91, 92] (by decide +kernel) (by decide +kernel)
set_option maxRecDepth 20000 in
theorem gX3_contest_X1_winnerBefore : GoodIn wsX3_contest (wsV RX3 68 RX1 yX1_winnerBefore wsX1_winnerBefore) := goodIn_app (goodIn_of _ (by decide +kernel)) ggX3_contest_X1_winnerBefore
set_option maxRecDepth 20000 in
theorem ggX3_contest_X3_gainOf : GoodIn wsX3_contest wsX3_gainOf := goodIn_r _ [35, 1, 36, 37, 38, 20, 39, 40, 41, 42, 43, 44, 23, 24, 45, 46, 47, 48, 49, 50, 51, 52, 53, 54, 55, 56, 57, 22, 30, 71, 72, 73, 74, 75, 76, 77, 78, 79, 80, 81, 82, 83, 84, 85, 86, 87, 88, 89, 90, 91, 92] (by decide +kernel) (by decide +kernel)
set_option maxRecDepth 20000 in
theorem gX3_contest_X3_gainOf : GoodIn wsX3_contest (wsV RX3 88 RX3 yX3_gainOf wsX3_gainOf) := goodIn_app (goodIn_of _ (by decide +kernel)) ggX3_contest_X3_gainOf
set_option maxRecDepth 20000 in
theorem ggX3_contest_X1_isOwn : GoodIn wsX3_contest wsX1_isOwn := goodIn_r _ [61, 23, 24, 79, 80, 81, 82, 83, 84, 85, 86, 87, 88, 89, 90, 91, 92] (by decide +kernel) (by decide +kernel)
set_option maxRecDepth 20000 in
theorem gX3_contest_X1_isOwn : GoodIn wsX3_contest (wsV RX3 81 RX1 yX1_isOwn wsX1_isOwn) := goodIn_app (goodIn_of _ (by decide +kernel)) ggX3_contest_X1_isOwn
set_option maxRecDepth 20000 in
theorem ggX3_contest_X1_opponentOf : GoodIn wsX3_contest wsX1_opponentOf := goodIn_r _ [44, 23, 24, 79, 80, 81, 82, 83, 84, 85, 86, 87, 88, 89, 90, 91, 92] (by decide +kernel) (by decide +kernel)
set_option maxRecDepth 20000 in
theorem gX3_contest_X1_opponentOf : GoodIn wsX3_contest (wsV RX3 92 RX1 yX1_opponentOf wsX1_opponentOf) := goodIn_app (goodIn_of _ (by decide +kernel)) ggX3_contest_X1_opponentOf
set_option maxRecDepth 20000 in
theorem ggX3_contest_X3_moveOn : GoodIn wsX3_contest wsX3_moveOn := goodIn_r _ [66, 11, 1, 67, 68, 69, 70, 71, 72, 73, 74, 75, 76, 77, 78] (by decide +kernel) (by decide +kernel)
set_option maxRecDepth 20000 in
theorem gX3_contest_X3_moveOn : GoodIn wsX3_contest (wsV RX3 65 RX3 yX3_moveOn wsX3_moveOn) := goodIn_app (goodIn_of _ (by decide +kernel)) ggX3_contest_X3_moveOn
theorem dX3_contest_0 : decode cX3_contest 0 = .ok (.aload_n 0, 1) := by decide +kernel
theorem dX3_contest_1 : decode cX3_contest 1 = .ok (.getfield 9, 3) := by decide +kernel
theorem dX3_contest_4 : decode cX3_contest 4 = .ok (.iconst 0, 1) := by decide +kernel
theorem dX3_contest_5 : decode cX3_contest 5 = .ok (.invokestatic 43, 3) := by decide +kernel
theorem dX3_contest_8 : decode cX3_contest 8 = .ok (.aload_n 1, 1) := by decide +kernel
theorem dX3_contest_9 : decode cX3_contest 9 = .ok (.getfield 55, 3) := by decide +kernel
theorem dX3_contest_12 : decode cX3_contest 12 = .ok (.iload 4, 2) := by decide +kernel
theorem dX3_contest_14 : decode cX3_contest 14 = .ok (.iadd, 1) := by decide +kernel
theorem dX3_contest_15 : decode cX3_contest 15 = .ok (.iconst 1, 1) := by decide +kernel
theorem dX3_contest_16 : decode cX3_contest 16 = .ok (.isub, 1) := by decide +kernel
theorem dX3_contest_17 : decode cX3_contest 17 = .ok (.istore 5, 2) := by decide +kernel
theorem dX3_contest_19 : decode cX3_contest 19 = .ok (.iload 5, 2) := by decide +kernel
theorem dX3_contest_21 : decode cX3_contest 21 = .ok (.aload_n 1, 1) := by decide +kernel
theorem dX3_contest_22 : decode cX3_contest 22 = .ok (.getfield 55, 3) := by decide +kernel
theorem dX3_contest_25 : decode cX3_contest 25 = .ok (.if_icmp .lt 131, 3) := by decide +kernel
theorem dX3_contest_28 : decode cX3_contest 28 = .ok (.iconst 0, 1) := by decide +kernel
theorem dX3_contest_29 : decode cX3_contest 29 = .ok (.istore 6, 2) := by decide +kernel
theorem dX3_contest_31 : decode cX3_contest 31 = .ok (.iload 6, 2) := by decide +kernel
theorem dX3_contest_33 : decode cX3_contest 33 = .ok (.aload_n 1, 1) := by decide +kernel
theorem dX3_contest_34 : decode cX3_contest 34 = .ok (.getfield 58, 3) := by decide +kernel
theorem dX3_contest_37 : decode cX3_contest 37 = .ok (.if_icmp .ge 109, 3) := by decide +kernel
theorem dX3_contest_40 : decode cX3_contest 40 = .ok (.aload_n 0, 1) := by decide +kernel
theorem dX3_contest_41 : decode cX3_contest 41 = .ok (.aload_n 1, 1) := by decide +kernel
theorem dX3_contest_42 : decode cX3_contest 42 = .ok (.iload_n 2, 1) := by decide +kernel
theorem dX3_contest_43 : decode cX3_contest 43 = .ok (.iload_n 3, 1) := by decide +kernel
theorem dX3_contest_44 : decode cX3_contest 44 = .ok (.iload 5, 2) := by decide +kernel
theorem dX3_contest_46 : decode cX3_contest 46 = .ok (.iload 6, 2) := by decide +kernel
theorem dX3_contest_48 : decode cX3_contest 48 = .ok (.aload_n 1, 1) := by decide +kernel
theorem dX3_contest_49 : decode cX3_contest 49 = .ok (.iload 6, 2) := by decide +kernel
theorem dX3_contest_51 : decode cX3_contest 51 = .ok (.iload 5, 2) := by decide +kernel
theorem dX3_contest_53 : decode cX3_contest 53 = .ok (.invokevirtual 68, 3) := by decide +kernel
theorem dX3_contest_56 : decode cX3_contest 56 = .ok (.invokevirtual 88, 3) := by decide +kernel
theorem dX3_contest_59 : decode cX3_contest 59 = .ok (.istore 7, 2) := by decide +kernel
theorem dX3_contest_61 : decode cX3_contest 61 = .ok (.aload_n 1, 1) := by decide +kernel
theorem dX3_contest_62 : decode cX3_contest 62 = .ok (.iload_n 3, 1) := by decide +kernel
theorem dX3_contest_63 : decode cX3_contest 63 = .ok (.iload 5, 2) := by decide +kernel
theorem dX3_contest_65 : decode cX3_contest 65 = .ok (.invokevirtual 81, 3) := by decide +kernel
theorem dX3_contest_68 : decode cX3_contest 68 = .ok (.ifCond .eq 28, 3) := by decide +kernel
theorem dX3_contest_71 : decode cX3_contest 71 = .ok (.iload 7, 2) := by decide +kernel
theorem dX3_contest_73 : decode cX3_contest 73 = .ok (.aload_n 0, 1) := by decide +kernel
theorem dX3_contest_74 : decode cX3_contest 74 = .ok (.aload_n 1, 1) := by decide +kernel
theorem dX3_contest_75 : decode cX3_contest 75 = .ok (.iload_n 2, 1) := by decide +kernel
theorem dX3_contest_76 : decode cX3_contest 76 = .ok (.iload_n 3, 1) := by decide +kernel
theorem dX3_contest_77 : decode cX3_contest 77 = .ok (.iload 5, 2) := by decide +kernel
theorem dX3_contest_79 : decode cX3_contest 79 = .ok (.iload 6, 2) := by decide +kernel
theorem dX3_contest_81 : decode cX3_contest 81 = .ok (.aload_n 1, 1) := by decide +kernel
theorem dX3_contest_82 : decode cX3_contest 82 = .ok (.iload_n 3, 1) := by decide +kernel
theorem dX3_contest_83 : decode cX3_contest 83 = .ok (.iload 5, 2) := by decide +kernel
theorem dX3_contest_85 : decode cX3_contest 85 = .ok (.invokevirtual 92, 3) := by decide +kernel
theorem dX3_contest_88 : decode cX3_contest 88 = .ok (.invokevirtual 88, 3) := by decide +kernel
theorem dX3_contest_91 : decode cX3_contest 91 = .ok (.invokestatic 72, 3) := by decide +kernel
theorem dX3_contest_94 : decode cX3_contest 94 = .ok (.istore 7, 2) := by decide +kernel
theorem dX3_contest_96 : decode cX3_contest 96 = .ok (.aload_n 1, 1) := by decide +kernel
theorem dX3_contest_97 : decode cX3_contest 97 = .ok (.iload_n 2, 1) := by decide +kernel
theorem dX3_contest_98 : decode cX3_contest 98 = .ok (.iload 5, 2) := by decide +kernel
theorem dX3_contest_100 : decode cX3_contest 100 = .ok (.invokevirtual 81, 3) := by decide +kernel
theorem dX3_contest_103 : decode cX3_contest 103 = .ok (.ifCond .eq 28, 3) := by decide +kernel
theorem dX3_contest_106 : decode cX3_contest 106 = .ok (.iload 7, 2) := by decide +kernel
theorem dX3_contest_108 : decode cX3_contest 108 = .ok (.aload_n 0, 1) := by decide +kernel
theorem dX3_contest_109 : decode cX3_contest 109 = .ok (.aload_n 1, 1) := by decide +kernel
theorem dX3_contest_110 : decode cX3_contest 110 = .ok (.iload_n 2, 1) := by decide +kernel
theorem dX3_contest_111 : decode cX3_contest 111 = .ok (.iload_n 3, 1) := by decide +kernel
theorem dX3_contest_112 : decode cX3_contest 112 = .ok (.iload 5, 2) := by decide +kernel
theorem dX3_contest_114 : decode cX3_contest 114 = .ok (.iload 6, 2) := by decide +kernel
theorem dX3_contest_116 : decode cX3_contest 116 = .ok (.aload_n 1, 1) := by decide +kernel
theorem dX3_contest_117 : decode cX3_contest 117 = .ok (.iload_n 2, 1) := by decide +kernel
theorem dX3_contest_118 : decode cX3_contest 118 = .ok (.iload 5, 2) := by decide +kernel
theorem dX3_contest_120 : decode cX3_contest 120 = .ok (.invokevirtual 92, 3) := by decide +kernel
theorem dX3_contest_123 : decode cX3_contest 123 = .ok (.invokevirtual 88, 3) := by decide +kernel
theorem dX3_contest_126 : decode cX3_contest 126 = .ok (.invokestatic 95, 3) := by decide +kernel
theorem dX3_contest_129 : decode cX3_contest 129 = .ok (.istore 7, 2) := by decide +kernel
theorem dX3_contest_131 : decode cX3_contest 131 = .ok (.aload_n 0, 1) := by decide +kernel
theorem dX3_contest_132 : decode cX3_contest 132 = .ok (.getfield 15, 3) := by decide +kernel
theorem dX3_contest_135 : decode cX3_contest 135 = .ok (.iload 6, 2) := by decide +kernel
theorem dX3_contest_137 : decode cX3_contest 137 = .ok (.iload 7, 2) := by decide +kernel
theorem dX3_contest_139 : decode cX3_contest 139 = .ok (.iastore, 1) := by decide +kernel
theorem dX3_contest_140 : decode cX3_contest 140 = .ok (.iinc 6 1, 3) := by decide +kernel
theorem dX3_contest_143 : decode cX3_contest 143 = .ok (.goto (-112), 3) := by decide +kernel
theorem dX3_contest_146 : decode cX3_contest 146 = .ok (.aload_n 0, 1) := by decide +kernel
theorem dX3_contest_147 : decode cX3_contest 147 = .ok (.invokevirtual 65, 3) := by decide +kernel
theorem dX3_contest_150 : decode cX3_contest 150 = .ok (.iinc 5 (-1), 3) := by decide +kernel
theorem dX3_contest_153 : decode cX3_contest 153 = .ok (.goto (-134), 3) := by decide +kernel
theorem dX3_contest_156 : decode cX3_contest 156 = .ok (.aload_n 0, 1) := by decide +kernel
theorem dX3_contest_157 : decode cX3_contest 157 = .ok (.getfield 9, 3) := by decide +kernel
theorem dX3_contest_160 : decode cX3_contest 160 = .ok (.aload_n 1, 1) := by decide +kernel
theorem dX3_contest_161 : decode cX3_contest 161 = .ok (.getfield 49, 3) := by decide +kernel
theorem dX3_contest_164 : decode cX3_contest 164 = .ok (.iaload, 1) := by decide +kernel
theorem dX3_contest_165 : decode cX3_contest 165 = .ok (.ireturn, 1) := by decide +kernel
set_option maxRecDepth 20000 in
theorem ggX3_gainOf_X1_sitsAfter : GoodIn wsX3_gainOf wsX1_sitsAfter := goodIn_r _ [6, 7, 8, 9, 10, 5, 11, 12, 13, 14, 15, 16, 17, 18, 19, 20, 21, 22, 23, 24, 25, 26, 27, 28, 37, 38, 39, 40, 41, 42, 43, 44, 45, 46, 47, 48, 49, 50] (by decide +kernel) (by decide +kernel)
set_option maxRecDepth 20000 in
theorem gX3_gainOf_X1_sitsAfter : GoodIn wsX3_gainOf (wsV RX3 77 RX1 yX1_sitsAfter wsX1_sitsAfter) := goodIn_app (goodIn_of _ (by decide +kernel)) ggX3_gainOf_X1_sitsAfter
theorem dX3_gainOf_0 : decode cX3_gainOf 0 = .ok (.iload 6, 2) := by decide +kernel
theorem dX3_gainOf_2 : decode cX3_gainOf 2 = .ok (.iload_n 2, 1) := by decide +kernel
theorem dX3_gainOf_3 : decode cX3_gainOf 3 = .ok (.if_icmp .ne 7, 3) := by decide +kernel
theorem dX3_gainOf_6 : decode cX3_gainOf 6 = .ok (.iconst 1, 1) := by decide +kernel
theorem dX3_gainOf_7 : decode cX3_gainOf 7 = .ok (.goto 14, 3) := by decide +kernel
theorem dX3_gainOf_10 : decode cX3_gainOf 10 = .ok (.iload 6, 2) := by decide +kernel
theorem dX3_gainOf_12 : decode cX3_gainOf 12 = .ok (.iload_n 3, 1) := by decide +kernel
theorem dX3_gainOf_13 : decode cX3_gainOf 13 = .ok (.if_icmp .ne 7, 3) := by decide +kernel
theorem dX3_gainOf_16 : decode cX3_gainOf 16 = .ok (.iconst (-1), 1) := by decide +kernel
theorem dX3_gainOf_17 : decode cX3_gainOf 17 = .ok (.goto 4, 3) := by decide +kernel
theorem dX3_gainOf_20 : decode cX3_gainOf 20 = .ok (.iconst 0, 1) := by decide +kernel
theorem dX3_gainOf_21 : decode cX3_gainOf 21 = .ok (.istore 7, 2) := by decide +kernel
theorem dX3_gainOf_23 : decode cX3_gainOf 23 = .ok (.iload 7, 2) := by decide +kernel
theorem dX3_gainOf_25 : decode cX3_gainOf 25 = .ok (.aload_n 0, 1) := by decide +kernel
theorem dX3_gainOf_26 : decode cX3_gainOf 26 = .ok (.getfield 9, 3) := by decide +kernel
theorem dX3_gainOf_29 : decode cX3_gainOf 29 = .ok (.aload_n 1, 1) := by decide +kernel
theorem dX3_gainOf_30 : decode cX3_gainOf 30 = .ok (.iload 5, 2) := by decide +kernel
theorem dX3_gainOf_32 : decode cX3_gainOf 32 = .ok (.iload 4, 2) := by decide +kernel
theorem dX3_gainOf_34 : decode cX3_gainOf 34 = .ok (.iload 6, 2) := by decide +kernel
theorem dX3_gainOf_36 : decode cX3_gainOf 36 = .ok (.invokevirtual 77, 3) := by decide +kernel
theorem dX3_gainOf_39 : decode cX3_gainOf 39 = .ok (.iaload, 1) := by decide +kernel
theorem dX3_gainOf_40 : decode cX3_gainOf 40 = .ok (.iadd, 1) := by decide +kernel
theorem dX3_gainOf_41 : decode cX3_gainOf 41 = .ok (.ireturn, 1) := by decide +kernel
set_option maxRecDepth 20000 in
theorem ggX3_weighOrders_X1_winnerBefore : GoodIn wsX3_weighOrders wsX1_winnerBefore := goodIn_r _ [10, 11, 12, 13, 14, 15, 16, 9, 17, 18, 19, 63, 64, 65, 66, 67, 68, 69, 70, 71, 72, 73, 74, 75, 76] (by decide +kernel) (by decide +kernel)
set_option maxRecDepth 20000 in
theorem gX3_weighOrders_X1_winnerBefore : GoodIn wsX3_weighOrders (wsV RX3 68 RX1 yX1_winnerBefore wsX1_winnerBefore) := goodIn_app (goodIn_of _ (by decide +kernel)) ggX3_weighOrders_X1_winnerBefore
set_option maxRecDepth 20000 in
theorem ggX3_weighOrders_X1_justWinner : GoodIn wsX3_weighOrders wsX1_justWinner := goodIn_r _ [23, 18, 12, 13, 63, 64, 65, 66, 67, 68, 69, 70, 71, 72, 73, 74, 75, 76] (by decide +kernel) (by decide +kernel)
set_option maxRecDepth 20000 in
theorem gX3_weighOrders_X1_justWinner : GoodIn wsX3_weighOrders (wsV RX3 98 RX1 yX1_justWinner wsX1_justWinner) := goodIn_app (goodIn_of _ (by decide +kernel)) ggX3_weighOrders_X1_justWinner
set_option maxRecDepth 20000 in
theorem ggX3_weighOrders_X1_sitsAfter : GoodIn wsX3_weighOrders wsX1_sitsAfter := goodIn_r _ [27, 28, 29, 30, 31, 9, 32, 12, 13, 33, 34, 35, 36, 37, 38, 39, 40, 41, 42, 43, 44, 45, 11, 19, 63, 64, 65, 66, 67, 68, 69, 70, 71, 72, 73, 74, 75, 76] (by decide +kernel) (by decide +kernel)
set_option maxRecDepth 20000 in
theorem gX3_weighOrders_X1_sitsAfter : GoodIn wsX3_weighOrders (wsV RX3 77 RX1 yX1_sitsAfter wsX1_sitsAfter) := goodIn_app (goodIn_of _ (by decide +kernel)) ggX3_weighOrders_X1_sitsAfter
set_option maxRecDepth 20000 in
theorem ggX3_weighOrders_J7_fill_53178 : GoodIn wsX3_weighOrders wsJ7_fill_53178 := goodIn_r _ [49] (by decide +kernel) (by decide +kernel)
set_option maxRecDepth 20000 in
theorem gX3_weighOrders_J7_fill_53178 : GoodIn wsX3_weighOrders (va_wsS RX3 43 yJ7_fill_53178 wsJ7_fill_53178) := goodIn_app (goodIn_of _ (by decide +kernel)) ggX3_weighOrders_J7_fill_53178
set_option maxRecDepth 20000 in
theorem ggX3_weighOrders_X3_mostBehind : GoodIn wsX3_weighOrders wsX3_mostBehind := goodIn_r _ [54, 55, 56, 57, 58, 59, 60, 61, 53, 62, 3, 5, 4, 77, 78, 79, 80, 81, 82, 83, 84] (by decide +kernel) (by decide +kernel)
set_option maxRecDepth 20000 in
theorem gX3_weighOrders_X3_mostBehind : GoodIn wsX3_weighOrders (wsV RX3 102 RX3 yX3_mostBehind wsX3_mostBehind) := goodIn_app (goodIn_of _ (by decide +kernel)) ggX3_weighOrders_X3_mostBehind
theorem dX3_weighOrders_0 : decode cX3_weighOrders 0 = .ok (.iconst 0, 1) := by decide +kernel
theorem dX3_weighOrders_1 : decode cX3_weighOrders 1 = .ok (.istore_n 3, 1) := by decide +kernel
theorem dX3_weighOrders_2 : decode cX3_weighOrders 2 = .ok (.iload_n 3, 1) := by decide +kernel
theorem dX3_weighOrders_3 : decode cX3_weighOrders 3 = .ok (.iload_n 2, 1) := by decide +kernel
theorem dX3_weighOrders_4 : decode cX3_weighOrders 4 = .ok (.if_icmp .ge 99, 3) := by decide +kernel
theorem dX3_weighOrders_7 : decode cX3_weighOrders 7 = .ok (.iconst 0, 1) := by decide +kernel
theorem dX3_weighOrders_8 : decode cX3_weighOrders 8 = .ok (.istore 4, 2) := by decide +kernel
theorem dX3_weighOrders_10 : decode cX3_weighOrders 10 = .ok (.iload 4, 2) := by decide +kernel
theorem dX3_weighOrders_12 : decode cX3_weighOrders 12 = .ok (.aload_n 1, 1) := by decide +kernel
theorem dX3_weighOrders_13 : decode cX3_weighOrders 13 = .ok (.getfield 58, 3) := by decide +kernel
theorem dX3_weighOrders_16 : decode cX3_weighOrders 16 = .ok (.if_icmp .ge 81, 3) := by decide +kernel
theorem dX3_weighOrders_19 : decode cX3_weighOrders 19 = .ok (.aload_n 1, 1) := by decide +kernel
theorem dX3_weighOrders_20 : decode cX3_weighOrders 20 = .ok (.iload 4, 2) := by decide +kernel
theorem dX3_weighOrders_22 : decode cX3_weighOrders 22 = .ok (.aload_n 1, 1) := by decide +kernel
theorem dX3_weighOrders_23 : decode cX3_weighOrders 23 = .ok (.getfield 55, 3) := by decide +kernel
theorem dX3_weighOrders_26 : decode cX3_weighOrders 26 = .ok (.iload_n 3, 1) := by decide +kernel
theorem dX3_weighOrders_27 : decode cX3_weighOrders 27 = .ok (.iadd, 1) := by decide +kernel
theorem dX3_weighOrders_28 : decode cX3_weighOrders 28 = .ok (.invokevirtual 68, 3) := by decide +kernel
theorem dX3_weighOrders_31 : decode cX3_weighOrders 31 = .ok (.istore 5, 2) := by decide +kernel
theorem dX3_weighOrders_33 : decode cX3_weighOrders 33 = .ok (.aload_n 0, 1) := by decide +kernel
theorem dX3_weighOrders_34 : decode cX3_weighOrders 34 = .ok (.getfield 21, 3) := by decide +kernel
theorem dX3_weighOrders_37 : decode cX3_weighOrders 37 = .ok (.iload_n 3, 1) := by decide +kernel
theorem dX3_weighOrders_38 : decode cX3_weighOrders 38 = .ok (.bipush 6, 2) := by decide +kernel
theorem dX3_weighOrders_40 : decode cX3_weighOrders 40 = .ok (.imul, 1) := by decide +kernel
theorem dX3_weighOrders_41 : decode cX3_weighOrders 41 = .ok (.iload 4, 2) := by decide +kernel
theorem dX3_weighOrders_43 : decode cX3_weighOrders 43 = .ok (.iadd, 1) := by decide +kernel
theorem dX3_weighOrders_44 : decode cX3_weighOrders 44 = .ok (.iload 5, 2) := by decide +kernel
theorem dX3_weighOrders_46 : decode cX3_weighOrders 46 = .ok (.aload_n 1, 1) := by decide +kernel
theorem dX3_weighOrders_47 : decode cX3_weighOrders 47 = .ok (.aload_n 1, 1) := by decide +kernel
theorem dX3_weighOrders_48 : decode cX3_weighOrders 48 = .ok (.getfield 55, 3) := by decide +kernel
theorem dX3_weighOrders_51 : decode cX3_weighOrders 51 = .ok (.iload_n 3, 1) := by decide +kernel
theorem dX3_weighOrders_52 : decode cX3_weighOrders 52 = .ok (.iadd, 1) := by decide +kernel
theorem dX3_weighOrders_53 : decode cX3_weighOrders 53 = .ok (.invokevirtual 98, 3) := by decide +kernel
theorem dX3_weighOrders_56 : decode cX3_weighOrders 56 = .ok (.if_icmp .ne 7, 3) := by decide +kernel
theorem dX3_weighOrders_59 : decode cX3_weighOrders 59 = .ok (.iconst 1, 1) := by decide +kernel
theorem dX3_weighOrders_60 : decode cX3_weighOrders 60 = .ok (.goto 4, 3) := by decide +kernel
theorem dX3_weighOrders_63 : decode cX3_weighOrders 63 = .ok (.iconst 0, 1) := by decide +kernel
theorem dX3_weighOrders_64 : decode cX3_weighOrders 64 = .ok (.iastore, 1) := by decide +kernel
theorem dX3_weighOrders_65 : decode cX3_weighOrders 65 = .ok (.aload_n 0, 1) := by decide +kernel
theorem dX3_weighOrders_66 : decode cX3_weighOrders 66 = .ok (.getfield 18, 3) := by decide +kernel
theorem dX3_weighOrders_69 : decode cX3_weighOrders 69 = .ok (.iload_n 3, 1) := by decide +kernel
theorem dX3_weighOrders_70 : decode cX3_weighOrders 70 = .ok (.bipush 6, 2) := by decide +kernel
theorem dX3_weighOrders_72 : decode cX3_weighOrders 72 = .ok (.imul, 1) := by decide +kernel
theorem dX3_weighOrders_73 : decode cX3_weighOrders 73 = .ok (.iload 4, 2) := by decide +kernel
theorem dX3_weighOrders_75 : decode cX3_weighOrders 75 = .ok (.iadd, 1) := by decide +kernel
theorem dX3_weighOrders_76 : decode cX3_weighOrders 76 = .ok (.aload_n 1, 1) := by decide +kernel
theorem dX3_weighOrders_77 : decode cX3_weighOrders 77 = .ok (.iload 4, 2) := by decide +kernel
theorem dX3_weighOrders_79 : decode cX3_weighOrders 79 = .ok (.aload_n 1, 1) := by decide +kernel
theorem dX3_weighOrders_80 : decode cX3_weighOrders 80 = .ok (.getfield 55, 3) := by decide +kernel
theorem dX3_weighOrders_83 : decode cX3_weighOrders 83 = .ok (.iload_n 3, 1) := by decide +kernel
theorem dX3_weighOrders_84 : decode cX3_weighOrders 84 = .ok (.iadd, 1) := by decide +kernel
theorem dX3_weighOrders_85 : decode cX3_weighOrders 85 = .ok (.iload 5, 2) := by decide +kernel
theorem dX3_weighOrders_87 : decode cX3_weighOrders 87 = .ok (.invokevirtual 77, 3) := by decide +kernel
theorem dX3_weighOrders_90 : decode cX3_weighOrders 90 = .ok (.iastore, 1) := by decide +kernel
theorem dX3_weighOrders_91 : decode cX3_weighOrders 91 = .ok (.iinc 4 1, 3) := by decide +kernel
theorem dX3_weighOrders_94 : decode cX3_weighOrders 94 = .ok (.goto (-84), 3) := by decide +kernel
theorem dX3_weighOrders_97 : decode cX3_weighOrders 97 = .ok (.iinc 3 1, 3) := by decide +kernel
theorem dX3_weighOrders_100 : decode cX3_weighOrders 100 = .ok (.goto (-98), 3) := by decide +kernel
theorem dX3_weighOrders_103 : decode cX3_weighOrders 103 = .ok (.aload_n 0, 1) := by decide +kernel
theorem dX3_weighOrders_104 : decode cX3_weighOrders 104 = .ok (.getfield 24, 3) := by decide +kernel
theorem dX3_weighOrders_107 : decode cX3_weighOrders 107 = .ok (.iconst 0, 1) := by decide +kernel
theorem dX3_weighOrders_108 : decode cX3_weighOrders 108 = .ok (.invokestatic 43, 3) := by decide +kernel
theorem dX3_weighOrders_111 : decode cX3_weighOrders 111 = .ok (.iconst 1, 1) := by decide +kernel
theorem dX3_weighOrders_112 : decode cX3_weighOrders 112 = .ok (.iload_n 2, 1) := by decide +kernel
theorem dX3_weighOrders_113 : decode cX3_weighOrders 113 = .ok (.ishl, 1) := by decide +kernel
theorem dX3_weighOrders_114 : decode cX3_weighOrders 114 = .ok (.iconst 2, 1) := by decide +kernel
theorem dX3_weighOrders_115 : decode cX3_weighOrders 115 = .ok (.isub, 1) := by decide +kernel
theorem dX3_weighOrders_116 : decode cX3_weighOrders 116 = .ok (.istore_n 3, 1) := by decide +kernel
theorem dX3_weighOrders_117 : decode cX3_weighOrders 117 = .ok (.iload_n 3, 1) := by decide +kernel
theorem dX3_weighOrders_118 : decode cX3_weighOrders 118 = .ok (.ifCond .lt 47, 3) := by decide +kernel
theorem dX3_weighOrders_121 : decode cX3_weighOrders 121 = .ok (.iconst 0, 1) := by decide +kernel
theorem dX3_weighOrders_122 : decode cX3_weighOrders 122 = .ok (.istore 4, 2) := by decide +kernel
theorem dX3_weighOrders_124 : decode cX3_weighOrders 124 = .ok (.iload 4, 2) := by decide +kernel
theorem dX3_weighOrders_126 : decode cX3_weighOrders 126 = .ok (.aload_n 1, 1) := by decide +kernel
theorem dX3_weighOrders_127 : decode cX3_weighOrders 127 = .ok (.getfield 58, 3) := by decide +kernel
theorem dX3_weighOrders_130 : decode cX3_weighOrders 130 = .ok (.if_icmp .ge 29, 3) := by decide +kernel
theorem dX3_weighOrders_133 : decode cX3_weighOrders 133 = .ok (.aload_n 0, 1) := by decide +kernel
theorem dX3_weighOrders_134 : decode cX3_weighOrders 134 = .ok (.getfield 24, 3) := by decide +kernel
theorem dX3_weighOrders_137 : decode cX3_weighOrders 137 = .ok (.iload_n 3, 1) := by decide +kernel
theorem dX3_weighOrders_138 : decode cX3_weighOrders 138 = .ok (.bipush 6, 2) := by decide +kernel
theorem dX3_weighOrders_140 : decode cX3_weighOrders 140 = .ok (.imul, 1) := by decide +kernel
theorem dX3_weighOrders_141 : decode cX3_weighOrders 141 = .ok (.iload 4, 2) := by decide +kernel
theorem dX3_weighOrders_143 : decode cX3_weighOrders 143 = .ok (.iadd, 1) := by decide +kernel
theorem dX3_weighOrders_144 : decode cX3_weighOrders 144 = .ok (.aload_n 0, 1) := by decide +kernel
theorem dX3_weighOrders_145 : decode cX3_weighOrders 145 = .ok (.iload_n 3, 1) := by decide +kernel
theorem dX3_weighOrders_146 : decode cX3_weighOrders 146 = .ok (.iload 4, 2) := by decide +kernel
theorem dX3_weighOrders_148 : decode cX3_weighOrders 148 = .ok (.iload_n 2, 1) := by decide +kernel
theorem dX3_weighOrders_149 : decode cX3_weighOrders 149 = .ok (.invokevirtual 102, 3) := by decide +kernel
theorem dX3_weighOrders_152 : decode cX3_weighOrders 152 = .ok (.iastore, 1) := by decide +kernel
theorem dX3_weighOrders_153 : decode cX3_weighOrders 153 = .ok (.iinc 4 1, 3) := by decide +kernel
theorem dX3_weighOrders_156 : decode cX3_weighOrders 156 = .ok (.goto (-32), 3) := by decide +kernel
theorem dX3_weighOrders_159 : decode cX3_weighOrders 159 = .ok (.iinc 3 (-1), 3) := by decide +kernel
theorem dX3_weighOrders_162 : decode cX3_weighOrders 162 = .ok (.goto (-45), 3) := by decide +kernel
theorem dX3_weighOrders_165 : decode cX3_weighOrders 165 = .ok (.return_, 1) := by decide +kernel
set_option maxRecDepth 20000 in
theorem ggX3_mostBehind_X3_justBy : GoodIn wsX3_mostBehind wsX3_justBy := goodIn_r _ [9, 10, 11, 12, 13, 14, 15, 16, 17, 18, 19, 20] (by decide +kernel) (by decide +kernel)
set_option maxRecDepth 20000 in
theorem gX3_mostBehind_X3_justBy : GoodIn wsX3_mostBehind (wsV RX3 105 RX3 yX3_justBy wsX3_justBy) := goodIn_app (goodIn_of _ (by decide +kernel)) ggX3_mostBehind_X3_justBy
theorem dX3_mostBehind_0 : decode cX3_mostBehind 0 = .ok (.iconst 0, 1) := by decide +kernel
theorem dX3_mostBehind_1 : decode cX3_mostBehind 1 = .ok (.istore 4, 2) := by decide +kernel
theorem dX3_mostBehind_3 : decode cX3_mostBehind 3 = .ok (.iconst 0, 1) := by decide +kernel
theorem dX3_mostBehind_4 : decode cX3_mostBehind 4 = .ok (.istore 5, 2) := by decide +kernel
theorem dX3_mostBehind_6 : decode cX3_mostBehind 6 = .ok (.iload 5, 2) := by decide +kernel
theorem dX3_mostBehind_8 : decode cX3_mostBehind 8 = .ok (.iload_n 3, 1) := by decide +kernel
theorem dX3_mostBehind_9 : decode cX3_mostBehind 9 = .ok (.if_icmp .ge 33, 3) := by decide +kernel
theorem dX3_mostBehind_12 : decode cX3_mostBehind 12 = .ok (.iload_n 1, 1) := by decide +kernel
theorem dX3_mostBehind_13 : decode cX3_mostBehind 13 = .ok (.iload 5, 2) := by decide +kernel
theorem dX3_mostBehind_15 : decode cX3_mostBehind 15 = .ok (.ishr, 1) := by decide +kernel
theorem dX3_mostBehind_16 : decode cX3_mostBehind 16 = .ok (.iconst 1, 1) := by decide +kernel
theorem dX3_mostBehind_17 : decode cX3_mostBehind 17 = .ok (.iand, 1) := by decide +kernel
theorem dX3_mostBehind_18 : decode cX3_mostBehind 18 = .ok (.ifCond .ne 18, 3) := by decide +kernel
theorem dX3_mostBehind_21 : decode cX3_mostBehind 21 = .ok (.iload 4, 2) := by decide +kernel
theorem dX3_mostBehind_23 : decode cX3_mostBehind 23 = .ok (.aload_n 0, 1) := by decide +kernel
theorem dX3_mostBehind_24 : decode cX3_mostBehind 24 = .ok (.iload_n 1, 1) := by decide +kernel
theorem dX3_mostBehind_25 : decode cX3_mostBehind 25 = .ok (.iload_n 2, 1) := by decide +kernel
theorem dX3_mostBehind_26 : decode cX3_mostBehind 26 = .ok (.iload 5, 2) := by decide +kernel
theorem dX3_mostBehind_28 : decode cX3_mostBehind 28 = .ok (.invokevirtual 105, 3) := by decide +kernel
theorem dX3_mostBehind_31 : decode cX3_mostBehind 31 = .ok (.invokestatic 95, 3) := by decide +kernel
theorem dX3_mostBehind_34 : decode cX3_mostBehind 34 = .ok (.istore 4, 2) := by decide +kernel
theorem dX3_mostBehind_36 : decode cX3_mostBehind 36 = .ok (.iinc 5 1, 3) := by decide +kernel
theorem dX3_mostBehind_39 : decode cX3_mostBehind 39 = .ok (.goto (-33), 3) := by decide +kernel
theorem dX3_mostBehind_42 : decode cX3_mostBehind 42 = .ok (.iload 4, 2) := by decide +kernel
theorem dX3_mostBehind_44 : decode cX3_mostBehind 44 = .ok (.ireturn, 1) := by decide +kernel
theorem dX3_justBy_0 : decode cX3_justBy 0 = .ok (.iload_n 3, 1) := by decide +kernel
theorem dX3_justBy_1 : decode cX3_justBy 1 = .ok (.bipush 6, 2) := by decide +kernel
theorem dX3_justBy_3 : decode cX3_justBy 3 = .ok (.imul, 1) := by decide +kernel
theorem dX3_justBy_4 : decode cX3_justBy 4 = .ok (.iload_n 2, 1) := by decide +kernel
theorem dX3_justBy_5 : decode cX3_justBy 5 = .ok (.iadd, 1) := by decide +kernel
theorem dX3_justBy_6 : decode cX3_justBy 6 = .ok (.istore 4, 2) := by decide +kernel
theorem dX3_justBy_8 : decode cX3_justBy 8 = .ok (.aload_n 0, 1) := by decide +kernel
theorem dX3_justBy_9 : decode cX3_justBy 9 = .ok (.getfield 21, 3) := by decide +kernel
theorem dX3_justBy_12 : decode cX3_justBy 12 = .ok (.iload 4, 2) := by decide +kernel
theorem dX3_justBy_14 : decode cX3_justBy 14 = .ok (.iaload, 1) := by decide +kernel
theorem dX3_justBy_15 : decode cX3_justBy 15 = .ok (.aload_n 0, 1) := by decide +kernel
theorem dX3_justBy_16 : decode cX3_justBy 16 = .ok (.getfield 24, 3) := by decide +kernel
theorem dX3_justBy_19 : decode cX3_justBy 19 = .ok (.iload_n 1, 1) := by decide +kernel
theorem dX3_justBy_20 : decode cX3_justBy 20 = .ok (.iconst 1, 1) := by decide +kernel
theorem dX3_justBy_21 : decode cX3_justBy 21 = .ok (.iload_n 3, 1) := by decide +kernel
theorem dX3_justBy_22 : decode cX3_justBy 22 = .ok (.ishl, 1) := by decide +kernel
theorem dX3_justBy_23 : decode cX3_justBy 23 = .ok (.ior, 1) := by decide +kernel
theorem dX3_justBy_24 : decode cX3_justBy 24 = .ok (.bipush 6, 2) := by decide +kernel
theorem dX3_justBy_26 : decode cX3_justBy 26 = .ok (.imul, 1) := by decide +kernel
theorem dX3_justBy_27 : decode cX3_justBy 27 = .ok (.aload_n 0, 1) := by decide +kernel
theorem dX3_justBy_28 : decode cX3_justBy 28 = .ok (.getfield 18, 3) := by decide +kernel
theorem dX3_justBy_31 : decode cX3_justBy 31 = .ok (.iload 4, 2) := by decide +kernel
theorem dX3_justBy_33 : decode cX3_justBy 33 = .ok (.iaload, 1) := by decide +kernel
theorem dX3_justBy_34 : decode cX3_justBy 34 = .ok (.iadd, 1) := by decide +kernel
theorem dX3_justBy_35 : decode cX3_justBy 35 = .ok (.iaload, 1) := by decide +kernel
theorem dX3_justBy_36 : decode cX3_justBy 36 = .ok (.iadd, 1) := by decide +kernel
theorem dX3_justBy_37 : decode cX3_justBy 37 = .ok (.ireturn, 1) := by decide +kernel
theorem dX3_mostJust_0 : decode cX3_mostJust 0 = .ok (.aload_n 0, 1) := by decide +kernel
theorem dX3_mostJust_1 : decode cX3_mostJust 1 = .ok (.getfield 24, 3) := by decide +kernel
theorem dX3_mostJust_4 : decode cX3_mostJust 4 = .ok (.iload_n 1, 1) := by decide +kernel
theorem dX3_mostJust_5 : decode cX3_mostJust 5 = .ok (.iaload, 1) := by decide +kernel
theorem dX3_mostJust_6 : decode cX3_mostJust 6 = .ok (.ireturn, 1) := by decide +kernel
set_option maxRecDepth 20000 in
theorem ggX3_placedAt_X3_firstOfBest : GoodIn wsX3_placedAt wsX3_firstOfBest := goodIn_r _ [7, 8, 9, 10, 11, 6, 12, 13, 2, 28, 29, 30, 31, 32, 33, 34, 35] (by decide +kernel) (by decide +kernel)
set_option maxRecDepth 20000 in
theorem gX3_placedAt_X3_firstOfBest : GoodIn wsX3_placedAt (wsV RX3 108 RX3 yX3_firstOfBest wsX3_firstOfBest) := goodIn_app (goodIn_of _ (by decide +kernel)) ggX3_placedAt_X3_firstOfBest
theorem dX3_placedAt_0 : decode cX3_placedAt 0 = .ok (.iconst 0, 1) := by decide +kernel
theorem dX3_placedAt_1 : decode cX3_placedAt 1 = .ok (.istore 4, 2) := by decide +kernel
theorem dX3_placedAt_3 : decode cX3_placedAt 3 = .ok (.aload_n 1, 1) := by decide +kernel
theorem dX3_placedAt_4 : decode cX3_placedAt 4 = .ok (.getfield 49, 3) := by decide +kernel
theorem dX3_placedAt_7 : decode cX3_placedAt 7 = .ok (.istore 5, 2) := by decide +kernel
theorem dX3_placedAt_9 : decode cX3_placedAt 9 = .ok (.iconst 0, 1) := by decide +kernel
theorem dX3_placedAt_10 : decode cX3_placedAt 10 = .ok (.istore 6, 2) := by decide +kernel
theorem dX3_placedAt_12 : decode cX3_placedAt 12 = .ok (.iconst 0, 1) := by decide +kernel
theorem dX3_placedAt_13 : decode cX3_placedAt 13 = .ok (.istore 7, 2) := by decide +kernel
theorem dX3_placedAt_15 : decode cX3_placedAt 15 = .ok (.iload 7, 2) := by decide +kernel
theorem dX3_placedAt_17 : decode cX3_placedAt 17 = .ok (.iload_n 3, 1) := by decide +kernel
theorem dX3_placedAt_18 : decode cX3_placedAt 18 = .ok (.if_icmp .gt 44, 3) := by decide +kernel
theorem dX3_placedAt_21 : decode cX3_placedAt 21 = .ok (.aload_n 0, 1) := by decide +kernel
theorem dX3_placedAt_22 : decode cX3_placedAt 22 = .ok (.iload 4, 2) := by decide +kernel
theorem dX3_placedAt_24 : decode cX3_placedAt 24 = .ok (.iload 5, 2) := by decide +kernel
theorem dX3_placedAt_26 : decode cX3_placedAt 26 = .ok (.iload_n 2, 1) := by decide +kernel
theorem dX3_placedAt_27 : decode cX3_placedAt 27 = .ok (.invokevirtual 108, 3) := by decide +kernel
theorem dX3_placedAt_30 : decode cX3_placedAt 30 = .ok (.istore 6, 2) := by decide +kernel
theorem dX3_placedAt_32 : decode cX3_placedAt 32 = .ok (.iload 4, 2) := by decide +kernel
theorem dX3_placedAt_34 : decode cX3_placedAt 34 = .ok (.iconst 1, 1) := by decide +kernel
theorem dX3_placedAt_35 : decode cX3_placedAt 35 = .ok (.iload 6, 2) := by decide +kernel
theorem dX3_placedAt_37 : decode cX3_placedAt 37 = .ok (.ishl, 1) := by decide +kernel
theorem dX3_placedAt_38 : decode cX3_placedAt 38 = .ok (.ior, 1) := by decide +kernel
theorem dX3_placedAt_39 : decode cX3_placedAt 39 = .ok (.istore 4, 2) := by decide +kernel
theorem dX3_placedAt_41 : decode cX3_placedAt 41 = .ok (.aload_n 0, 1) := by decide +kernel
theorem dX3_placedAt_42 : decode cX3_placedAt 42 = .ok (.getfield 18, 3) := by decide +kernel
theorem dX3_placedAt_45 : decode cX3_placedAt 45 = .ok (.iload 6, 2) := by decide +kernel
theorem dX3_placedAt_47 : decode cX3_placedAt 47 = .ok (.bipush 6, 2) := by decide +kernel
theorem dX3_placedAt_49 : decode cX3_placedAt 49 = .ok (.imul, 1) := by decide +kernel
theorem dX3_placedAt_50 : decode cX3_placedAt 50 = .ok (.iload 5, 2) := by decide +kernel
theorem dX3_placedAt_52 : decode cX3_placedAt 52 = .ok (.iadd, 1) := by decide +kernel
theorem dX3_placedAt_53 : decode cX3_placedAt 53 = .ok (.iaload, 1) := by decide +kernel
theorem dX3_placedAt_54 : decode cX3_placedAt 54 = .ok (.istore 5, 2) := by decide +kernel
theorem dX3_placedAt_56 : decode cX3_placedAt 56 = .ok (.iinc 7 1, 3) := by decide +kernel
theorem dX3_placedAt_59 : decode cX3_placedAt 59 = .ok (.goto (-44), 3) := by decide +kernel
theorem dX3_placedAt_62 : decode cX3_placedAt 62 = .ok (.iload 6, 2) := by decide +kernel
theorem dX3_placedAt_64 : decode cX3_placedAt 64 = .ok (.ireturn, 1) := by decide +kernel
set_option maxRecDepth 20000 in
theorem ggX3_firstOfBest_X3_justBy : GoodIn wsX3_firstOfBest wsX3_justBy := goodIn_r _ [6, 7, 1, 8, 9, 10, 11, 12, 13, 14, 15, 16] (by decide +kernel) (by decide +kernel)
set_option maxRecDepth 20000 in
theorem gX3_firstOfBest_X3_justBy : GoodIn wsX3_firstOfBest (wsV RX3 105 RX3 yX3_justBy wsX3_justBy) := goodIn_app (goodIn_of _ (by decide +kernel)) ggX3_firstOfBest_X3_justBy
theorem dX3_firstOfBest_0 : decode cX3_firstOfBest 0 = .ok (.aload_n 0, 1) := by decide +kernel
theorem dX3_firstOfBest_1 : decode cX3_firstOfBest 1 = .ok (.getfield 24, 3) := by decide +kernel
theorem dX3_firstOfBest_4 : decode cX3_firstOfBest 4 = .ok (.iload_n 1, 1) := by decide +kernel
theorem dX3_firstOfBest_5 : decode cX3_firstOfBest 5 = .ok (.bipush 6, 2) := by decide +kernel
theorem dX3_firstOfBest_7 : decode cX3_firstOfBest 7 = .ok (.imul, 1) := by decide +kernel
theorem dX3_firstOfBest_8 : decode cX3_firstOfBest 8 = .ok (.iload_n 2, 1) := by decide +kernel
theorem dX3_firstOfBest_9 : decode cX3_firstOfBest 9 = .ok (.iadd, 1) := by decide +kernel
theorem dX3_firstOfBest_10 : decode cX3_firstOfBest 10 = .ok (.iaload, 1) := by decide +kernel
theorem dX3_firstOfBest_11 : decode cX3_firstOfBest 11 = .ok (.istore 4, 2) := by decide +kernel
theorem dX3_firstOfBest_13 : decode cX3_firstOfBest 13 = .ok (.iconst 0, 1) := by decide +kernel
theorem dX3_firstOfBest_14 : decode cX3_firstOfBest 14 = .ok (.istore 5, 2) := by decide +kernel
theorem dX3_firstOfBest_16 : decode cX3_firstOfBest 16 = .ok (.iload 5, 2) := by decide +kernel
theorem dX3_firstOfBest_18 : decode cX3_firstOfBest 18 = .ok (.iload_n 3, 1) := by decide +kernel
theorem dX3_firstOfBest_19 : decode cX3_firstOfBest 19 = .ok (.if_icmp .ge 34, 3) := by decide +kernel
theorem dX3_firstOfBest_22 : decode cX3_firstOfBest 22 = .ok (.iload_n 1, 1) := by decide +kernel
theorem dX3_firstOfBest_23 : decode cX3_firstOfBest 23 = .ok (.iload 5, 2) := by decide +kernel
theorem dX3_firstOfBest_25 : decode cX3_firstOfBest 25 = .ok (.ishr, 1) := by decide +kernel
theorem dX3_firstOfBest_26 : decode cX3_firstOfBest 26 = .ok (.iconst 1, 1) := by decide +kernel
theorem dX3_firstOfBest_27 : decode cX3_firstOfBest 27 = .ok (.iand, 1) := by decide +kernel
theorem dX3_firstOfBest_28 : decode cX3_firstOfBest 28 = .ok (.ifCond .ne 19, 3) := by decide +kernel
theorem dX3_firstOfBest_31 : decode cX3_firstOfBest 31 = .ok (.aload_n 0, 1) := by decide +kernel
theorem dX3_firstOfBest_32 : decode cX3_firstOfBest 32 = .ok (.iload_n 1, 1) := by decide +kernel
theorem dX3_firstOfBest_33 : decode cX3_firstOfBest 33 = .ok (.iload_n 2, 1) := by decide +kernel
theorem dX3_firstOfBest_34 : decode cX3_firstOfBest 34 = .ok (.iload 5, 2) := by decide +kernel
theorem dX3_firstOfBest_36 : decode cX3_firstOfBest 36 = .ok (.invokevirtual 105, 3) := by decide +kernel
theorem dX3_firstOfBest_39 : decode cX3_firstOfBest 39 = .ok (.iload 4, 2) := by decide +kernel
theorem dX3_firstOfBest_41 : decode cX3_firstOfBest 41 = .ok (.if_icmp .ne 6, 3) := by decide +kernel
theorem dX3_firstOfBest_44 : decode cX3_firstOfBest 44 = .ok (.iload 5, 2) := by decide +kernel
theorem dX3_firstOfBest_46 : decode cX3_firstOfBest 46 = .ok (.ireturn, 1) := by decide +kernel
theorem dX3_firstOfBest_47 : decode cX3_firstOfBest 47 = .ok (.iinc 5 1, 3) := by decide +kernel
theorem dX3_firstOfBest_50 : decode cX3_firstOfBest 50 = .ok (.goto (-34), 3) := by decide +kernel
theorem dX3_firstOfBest_53 : decode cX3_firstOfBest 53 = .ok (.iconst 0, 1) := by decide +kernel
theorem dX3_firstOfBest_54 : decode cX3_firstOfBest 54 = .ok (.ireturn, 1) := by decide +kernel
set_option maxRecDepth 20000 in
theorem ggX3_period_X1_stateBehind : GoodIn wsX3_period wsX1_stateBehind := goodIn_r _ [5, 6, 7, 8, 9, 10, 11, 12, 4, 13, 14, 15, 16, 17, 18, 19, 20, 21, 22, 23, 24, 25, 26, 27, 28, 29, 30, 31, 32, 33, 34, 35, 36, 37, 38, 39, 40, 41, 42, 43, 44, 45, 46, 47, 48, 49, 50, 51, 52, 53, 54, 55, 56, 57, 58, 59, 60, 61, 62, 63, 64, 65, 66, 67, 68, 69, 70, 71, 72, 73] (by decide +kernel) (by decide +kernel)
set_option maxRecDepth 20000 in
theorem gX3_period_X1_stateBehind : GoodIn wsX3_period (wsV RX3 111 RX1 yX1_stateBehind wsX1_stateBehind) := goodIn_app (goodIn_of _ (by decide +kernel)) ggX3_period_X1_stateBehind
theorem dX3_period_0 : decode cX3_period 0 = .ok (.iload_n 3, 1) := by decide +kernel
theorem dX3_period_1 : decode cX3_period 1 = .ok (.istore 4, 2) := by decide +kernel
theorem dX3_period_3 : decode cX3_period 3 = .ok (.aload_n 1, 1) := by decide +kernel
theorem dX3_period_4 : decode cX3_period 4 = .ok (.iload_n 2, 1) := by decide +kernel
theorem dX3_period_5 : decode cX3_period 5 = .ok (.iload_n 3, 1) := by decide +kernel
theorem dX3_period_6 : decode cX3_period 6 = .ok (.invokevirtual 111, 3) := by decide +kernel
theorem dX3_period_9 : decode cX3_period 9 = .ok (.istore 5, 2) := by decide +kernel
theorem dX3_period_11 : decode cX3_period 11 = .ok (.iconst 1, 1) := by decide +kernel
theorem dX3_period_12 : decode cX3_period 12 = .ok (.istore 6, 2) := by decide +kernel
theorem dX3_period_14 : decode cX3_period 14 = .ok (.iconst 1, 1) := by decide +kernel
theorem dX3_period_15 : decode cX3_period 15 = .ok (.istore 7, 2) := by decide +kernel
theorem dX3_period_17 : decode cX3_period 17 = .ok (.iconst 0, 1) := by decide +kernel
theorem dX3_period_18 : decode cX3_period 18 = .ok (.istore 8, 2) := by decide +kernel
theorem dX3_period_20 : decode cX3_period 20 = .ok (.iload 8, 2) := by decide +kernel
theorem dX3_period_22 : decode cX3_period 22 = .ok (.sipush 10000, 3) := by decide +kernel
theorem dX3_period_25 : decode cX3_period 25 = .ok (.if_icmp .ge 48, 3) := by decide +kernel
theorem dX3_period_28 : decode cX3_period 28 = .ok (.iload 5, 2) := by decide +kernel
theorem dX3_period_30 : decode cX3_period 30 = .ok (.iload 4, 2) := by decide +kernel
theorem dX3_period_32 : decode cX3_period 32 = .ok (.if_icmp .eq 41, 3) := by decide +kernel
theorem dX3_period_35 : decode cX3_period 35 = .ok (.iload 6, 2) := by decide +kernel
theorem dX3_period_37 : decode cX3_period 37 = .ok (.iload 7, 2) := by decide +kernel
theorem dX3_period_39 : decode cX3_period 39 = .ok (.if_icmp .ne 16, 3) := by decide +kernel
theorem dX3_period_42 : decode cX3_period 42 = .ok (.iload 5, 2) := by decide +kernel
theorem dX3_period_44 : decode cX3_period 44 = .ok (.istore 4, 2) := by decide +kernel
theorem dX3_period_46 : decode cX3_period 46 = .ok (.iload 7, 2) := by decide +kernel
theorem dX3_period_48 : decode cX3_period 48 = .ok (.iconst 2, 1) := by decide +kernel
theorem dX3_period_49 : decode cX3_period 49 = .ok (.imul, 1) := by decide +kernel
theorem dX3_period_50 : decode cX3_period 50 = .ok (.istore 7, 2) := by decide +kernel
theorem dX3_period_52 : decode cX3_period 52 = .ok (.iconst 0, 1) := by decide +kernel
theorem dX3_period_53 : decode cX3_period 53 = .ok (.istore 6, 2) := by decide +kernel
theorem dX3_period_55 : decode cX3_period 55 = .ok (.aload_n 1, 1) := by decide +kernel
theorem dX3_period_56 : decode cX3_period 56 = .ok (.iload_n 2, 1) := by decide +kernel
theorem dX3_period_57 : decode cX3_period 57 = .ok (.iload 5, 2) := by decide +kernel
theorem dX3_period_59 : decode cX3_period 59 = .ok (.invokevirtual 111, 3) := by decide +kernel
theorem dX3_period_62 : decode cX3_period 62 = .ok (.istore 5, 2) := by decide +kernel
theorem dX3_period_64 : decode cX3_period 64 = .ok (.iinc 6 1, 3) := by decide +kernel
theorem dX3_period_67 : decode cX3_period 67 = .ok (.iinc 8 1, 3) := by decide +kernel
theorem dX3_period_70 : decode cX3_period 70 = .ok (.goto (-50), 3) := by decide +kernel
theorem dX3_period_73 : decode cX3_period 73 = .ok (.iload 6, 2) := by decide +kernel
theorem dX3_period_75 : decode cX3_period 75 = .ok (.ireturn, 1) := by decide +kernel
set_option maxRecDepth 20000 in
theorem ggX3_leadIn_X1_stateBehind : GoodIn wsX3_leadIn wsX1_stateBehind := goodIn_r _ [5, 6, 7, 8, 9, 10, 11, 12, 4, 13, 14, 15, 16, 17, 18, 19, 20, 21, 22, 23, 24, 25, 26, 27, 28, 29, 30, 31, 32, 33, 34, 35, 36, 37, 38, 39, 40, 41, 42, 43, 44, 45, 46, 47, 48, 49, 50, 51, 52, 53, 54, 55, 56, 57, 58, 59, 60, 61, 62, 63, 64, 65, 66, 67, 68, 69, 70, 71, 72, 73] (by decide +kernel) (by decide +kernel)
set_option maxRecDepth 20000 in
theorem gX3_leadIn_X1_stateBehind : GoodIn wsX3_leadIn (wsV RX3 111 RX1 yX1_stateBehind wsX1_stateBehind) := goodIn_app (goodIn_of _ (by decide +kernel)) ggX3_leadIn_X1_stateBehind
theorem dX3_leadIn_0 : decode cX3_leadIn 0 = .ok (.iload_n 3, 1) := by decide +kernel
theorem dX3_leadIn_1 : decode cX3_leadIn 1 = .ok (.istore 5, 2) := by decide +kernel
theorem dX3_leadIn_3 : decode cX3_leadIn 3 = .ok (.iload_n 3, 1) := by decide +kernel
theorem dX3_leadIn_4 : decode cX3_leadIn 4 = .ok (.istore 6, 2) := by decide +kernel
theorem dX3_leadIn_6 : decode cX3_leadIn 6 = .ok (.iconst 0, 1) := by decide +kernel
theorem dX3_leadIn_7 : decode cX3_leadIn 7 = .ok (.istore 7, 2) := by decide +kernel
theorem dX3_leadIn_9 : decode cX3_leadIn 9 = .ok (.iload 7, 2) := by decide +kernel
theorem dX3_leadIn_11 : decode cX3_leadIn 11 = .ok (.iload 4, 2) := by decide +kernel
theorem dX3_leadIn_13 : decode cX3_leadIn 13 = .ok (.if_icmp .ge 18, 3) := by decide +kernel
theorem dX3_leadIn_16 : decode cX3_leadIn 16 = .ok (.aload_n 1, 1) := by decide +kernel
theorem dX3_leadIn_17 : decode cX3_leadIn 17 = .ok (.iload_n 2, 1) := by decide +kernel
theorem dX3_leadIn_18 : decode cX3_leadIn 18 = .ok (.iload 6, 2) := by decide +kernel
theorem dX3_leadIn_20 : decode cX3_leadIn 20 = .ok (.invokevirtual 111, 3) := by decide +kernel
theorem dX3_leadIn_23 : decode cX3_leadIn 23 = .ok (.istore 6, 2) := by decide +kernel
theorem dX3_leadIn_25 : decode cX3_leadIn 25 = .ok (.iinc 7 1, 3) := by decide +kernel
theorem dX3_leadIn_28 : decode cX3_leadIn 28 = .ok (.goto (-19), 3) := by decide +kernel
theorem dX3_leadIn_31 : decode cX3_leadIn 31 = .ok (.iconst 0, 1) := by decide +kernel
theorem dX3_leadIn_32 : decode cX3_leadIn 32 = .ok (.istore 7, 2) := by decide +kernel
theorem dX3_leadIn_34 : decode cX3_leadIn 34 = .ok (.iconst 0, 1) := by decide +kernel
theorem dX3_leadIn_35 : decode cX3_leadIn 35 = .ok (.istore 8, 2) := by decide +kernel
theorem dX3_leadIn_37 : decode cX3_leadIn 37 = .ok (.iload 8, 2) := by decide +kernel
theorem dX3_leadIn_39 : decode cX3_leadIn 39 = .ok (.sipush 10000, 3) := by decide +kernel
theorem dX3_leadIn_42 : decode cX3_leadIn 42 = .ok (.if_icmp .ge 37, 3) := by decide +kernel
theorem dX3_leadIn_45 : decode cX3_leadIn 45 = .ok (.iload 5, 2) := by decide +kernel
theorem dX3_leadIn_47 : decode cX3_leadIn 47 = .ok (.iload 6, 2) := by decide +kernel
theorem dX3_leadIn_49 : decode cX3_leadIn 49 = .ok (.if_icmp .eq 30, 3) := by decide +kernel
theorem dX3_leadIn_52 : decode cX3_leadIn 52 = .ok (.aload_n 1, 1) := by decide +kernel
theorem dX3_leadIn_53 : decode cX3_leadIn 53 = .ok (.iload_n 2, 1) := by decide +kernel
theorem dX3_leadIn_54 : decode cX3_leadIn 54 = .ok (.iload 5, 2) := by decide +kernel
theorem dX3_leadIn_56 : decode cX3_leadIn 56 = .ok (.invokevirtual 111, 3) := by decide +kernel
theorem dX3_leadIn_59 : decode cX3_leadIn 59 = .ok (.istore 5, 2) := by decide +kernel
theorem dX3_leadIn_61 : decode cX3_leadIn 61 = .ok (.aload_n 1, 1) := by decide +kernel
theorem dX3_leadIn_62 : decode cX3_leadIn 62 = .ok (.iload_n 2, 1) := by decide +kernel
theorem dX3_leadIn_63 : decode cX3_leadIn 63 = .ok (.iload 6, 2) := by decide +kernel
theorem dX3_leadIn_65 : decode cX3_leadIn 65 = .ok (.invokevirtual 111, 3) := by decide +kernel
theorem dX3_leadIn_68 : decode cX3_leadIn 68 = .ok (.istore 6, 2) := by decide +kernel
theorem dX3_leadIn_70 : decode cX3_leadIn 70 = .ok (.iinc 7 1, 3) := by decide +kernel
theorem dX3_leadIn_73 : decode cX3_leadIn 73 = .ok (.iinc 8 1, 3) := by decide +kernel
theorem dX3_leadIn_76 : decode cX3_leadIn 76 = .ok (.goto (-39), 3) := by decide +kernel
theorem dX3_leadIn_79 : decode cX3_leadIn 79 = .ok (.iload 7, 2) := by decide +kernel
theorem dX3_leadIn_81 : decode cX3_leadIn 81 = .ok (.ireturn, 1) := by decide +kernel
set_option maxRecDepth 20000 in
theorem ggX3_benchOf_J7_fill_53178 : GoodIn wsX3_benchOf wsJ7_fill_53178 := goodIn_r _ [7] (by decide +kernel) (by decide +kernel)
set_option maxRecDepth 20000 in
theorem gX3_benchOf_J7_fill_53178 : GoodIn wsX3_benchOf (va_wsS RX3 43 yJ7_fill_53178 wsJ7_fill_53178) := goodIn_app (goodIn_of _ (by decide +kernel)) ggX3_benchOf_J7_fill_53178
set_option maxRecDepth 20000 in
theorem ggX3_benchOf_X3_askingParty : GoodIn wsX3_benchOf wsX3_askingParty := goodIn_r _ [12, 13, 14, 1, 3, 44, 45, 46, 47, 48, 49, 50, 51, 52, 53, 54, 55, 56, 57, 36, 37, 38, 39, 40, 41, 42, 43] (by decide +kernel) (by decide +kernel)
set_option maxRecDepth 20000 in
theorem gX3_benchOf_X3_askingParty : GoodIn wsX3_benchOf (wsV RX3 114 RX3 yX3_askingParty wsX3_askingParty) := goodIn_app (goodIn_of _ (by decide +kernel)) ggX3_benchOf_X3_askingParty
set_option maxRecDepth 20000 in
theorem ggX3_benchOf_X3_ask : GoodIn wsX3_benchOf wsX3_ask := goodIn_r _ [18, 19, 3, 2, 1, 20, 21, 22, 23, 24, 25, 26, 27, 28, 29, 30, 31, 32, 33, 11, 34, 35, 44, 45, 46, 47, 48, 49, 50, 51, 52, 53, 54, 55, 56, 57, 36, 37, 38, 39, 40, 41, 42, 43] (by decide +kernel) (by decide +kernel)
set_option maxRecDepth 20000 in
theorem gX3_benchOf_X3_ask : GoodIn wsX3_benchOf (wsV RX3 118 RX3 yX3_ask wsX3_ask) := goodIn_app (goodIn_of _ (by decide +kernel)) ggX3_benchOf_X3_ask
theorem dX3_benchOf_0 : decode cX3_benchOf 0 = .ok (.aload_n 0, 1) := by decide +kernel
theorem dX3_benchOf_1 : decode cX3_benchOf 1 = .ok (.getfield 27, 3) := by decide +kernel
theorem dX3_benchOf_4 : decode cX3_benchOf 4 = .ok (.bipush (-4), 2) := by decide +kernel
theorem dX3_benchOf_6 : decode cX3_benchOf 6 = .ok (.invokestatic 43, 3) := by decide +kernel
theorem dX3_benchOf_9 : decode cX3_benchOf 9 = .ok (.aload_n 0, 1) := by decide +kernel
theorem dX3_benchOf_10 : decode cX3_benchOf 10 = .ok (.getfield 33, 3) := by decide +kernel
theorem dX3_benchOf_13 : decode cX3_benchOf 13 = .ok (.bipush (-4), 2) := by decide +kernel
theorem dX3_benchOf_15 : decode cX3_benchOf 15 = .ok (.invokestatic 43, 3) := by decide +kernel
theorem dX3_benchOf_18 : decode cX3_benchOf 18 = .ok (.aload_n 0, 1) := by decide +kernel
theorem dX3_benchOf_19 : decode cX3_benchOf 19 = .ok (.getfield 30, 3) := by decide +kernel
theorem dX3_benchOf_22 : decode cX3_benchOf 22 = .ok (.iconst 0, 1) := by decide +kernel
theorem dX3_benchOf_23 : decode cX3_benchOf 23 = .ok (.invokestatic 43, 3) := by decide +kernel
theorem dX3_benchOf_26 : decode cX3_benchOf 26 = .ok (.iconst 0, 1) := by decide +kernel
theorem dX3_benchOf_27 : decode cX3_benchOf 27 = .ok (.istore_n 3, 1) := by decide +kernel
theorem dX3_benchOf_28 : decode cX3_benchOf 28 = .ok (.iload_n 3, 1) := by decide +kernel
theorem dX3_benchOf_29 : decode cX3_benchOf 29 = .ok (.bipush 36, 2) := by decide +kernel
theorem dX3_benchOf_31 : decode cX3_benchOf 31 = .ok (.if_icmp .ge 33, 3) := by decide +kernel
theorem dX3_benchOf_34 : decode cX3_benchOf 34 = .ok (.aload_n 0, 1) := by decide +kernel
theorem dX3_benchOf_35 : decode cX3_benchOf 35 = .ok (.aload_n 1, 1) := by decide +kernel
theorem dX3_benchOf_36 : decode cX3_benchOf 36 = .ok (.invokevirtual 114, 3) := by decide +kernel
theorem dX3_benchOf_39 : decode cX3_benchOf 39 = .ok (.istore 4, 2) := by decide +kernel
theorem dX3_benchOf_41 : decode cX3_benchOf 41 = .ok (.iload 4, 2) := by decide +kernel
theorem dX3_benchOf_43 : decode cX3_benchOf 43 = .ok (.bipush (-4), 2) := by decide +kernel
theorem dX3_benchOf_45 : decode cX3_benchOf 45 = .ok (.if_icmp .ne 6, 3) := by decide +kernel
theorem dX3_benchOf_48 : decode cX3_benchOf 48 = .ok (.goto 16, 3) := by decide +kernel
theorem dX3_benchOf_51 : decode cX3_benchOf 51 = .ok (.aload_n 0, 1) := by decide +kernel
theorem dX3_benchOf_52 : decode cX3_benchOf 52 = .ok (.aload_n 1, 1) := by decide +kernel
theorem dX3_benchOf_53 : decode cX3_benchOf 53 = .ok (.iload 4, 2) := by decide +kernel
theorem dX3_benchOf_55 : decode cX3_benchOf 55 = .ok (.invokevirtual 118, 3) := by decide +kernel
theorem dX3_benchOf_58 : decode cX3_benchOf 58 = .ok (.iinc 3 1, 3) := by decide +kernel
theorem dX3_benchOf_61 : decode cX3_benchOf 61 = .ok (.goto (-33), 3) := by decide +kernel
theorem dX3_benchOf_64 : decode cX3_benchOf 64 = .ok (.aload_n 0, 1) := by decide +kernel
theorem dX3_benchOf_65 : decode cX3_benchOf 65 = .ok (.getfield 27, 3) := by decide +kernel
theorem dX3_benchOf_68 : decode cX3_benchOf 68 = .ok (.iload_n 2, 1) := by decide +kernel
theorem dX3_benchOf_69 : decode cX3_benchOf 69 = .ok (.iaload, 1) := by decide +kernel
theorem dX3_benchOf_70 : decode cX3_benchOf 70 = .ok (.ireturn, 1) := by decide +kernel
theorem dX3_askingParty_0 : decode cX3_askingParty 0 = .ok (.iconst 1, 1) := by decide +kernel
theorem dX3_askingParty_1 : decode cX3_askingParty 1 = .ok (.aload_n 1, 1) := by decide +kernel
theorem dX3_askingParty_2 : decode cX3_askingParty 2 = .ok (.getfield 58, 3) := by decide +kernel
theorem dX3_askingParty_5 : decode cX3_askingParty 5 = .ok (.ishl, 1) := by decide +kernel
theorem dX3_askingParty_6 : decode cX3_askingParty 6 = .ok (.iconst 1, 1) := by decide +kernel
theorem dX3_askingParty_7 : decode cX3_askingParty 7 = .ok (.isub, 1) := by decide +kernel
theorem dX3_askingParty_8 : decode cX3_askingParty 8 = .ok (.istore_n 2, 1) := by decide +kernel
theorem dX3_askingParty_9 : decode cX3_askingParty 9 = .ok (.iconst 0, 1) := by decide +kernel
theorem dX3_askingParty_10 : decode cX3_askingParty 10 = .ok (.istore_n 3, 1) := by decide +kernel
theorem dX3_askingParty_11 : decode cX3_askingParty 11 = .ok (.iload_n 3, 1) := by decide +kernel
theorem dX3_askingParty_12 : decode cX3_askingParty 12 = .ok (.aload_n 1, 1) := by decide +kernel
theorem dX3_askingParty_13 : decode cX3_askingParty 13 = .ok (.getfield 122, 3) := by decide +kernel
theorem dX3_askingParty_16 : decode cX3_askingParty 16 = .ok (.if_icmp .ge 32, 3) := by decide +kernel
theorem dX3_askingParty_19 : decode cX3_askingParty 19 = .ok (.aload_n 0, 1) := by decide +kernel
theorem dX3_askingParty_20 : decode cX3_askingParty 20 = .ok (.getfield 27, 3) := by decide +kernel
theorem dX3_askingParty_23 : decode cX3_askingParty 23 = .ok (.iload_n 3, 1) := by decide +kernel
theorem dX3_askingParty_24 : decode cX3_askingParty 24 = .ok (.iaload, 1) := by decide +kernel
theorem dX3_askingParty_25 : decode cX3_askingParty 25 = .ok (.bipush (-4), 2) := by decide +kernel
theorem dX3_askingParty_27 : decode cX3_askingParty 27 = .ok (.if_icmp .ne 15, 3) := by decide +kernel
theorem dX3_askingParty_30 : decode cX3_askingParty 30 = .ok (.aload_n 0, 1) := by decide +kernel
theorem dX3_askingParty_31 : decode cX3_askingParty 31 = .ok (.getfield 30, 3) := by decide +kernel
theorem dX3_askingParty_34 : decode cX3_askingParty 34 = .ok (.iload_n 3, 1) := by decide +kernel
theorem dX3_askingParty_35 : decode cX3_askingParty 35 = .ok (.iaload, 1) := by decide +kernel
theorem dX3_askingParty_36 : decode cX3_askingParty 36 = .ok (.iload_n 2, 1) := by decide +kernel
theorem dX3_askingParty_37 : decode cX3_askingParty 37 = .ok (.if_icmp .eq 5, 3) := by decide +kernel
theorem dX3_askingParty_40 : decode cX3_askingParty 40 = .ok (.iload_n 3, 1) := by decide +kernel
theorem dX3_askingParty_41 : decode cX3_askingParty 41 = .ok (.ireturn, 1) := by decide +kernel
theorem dX3_askingParty_42 : decode cX3_askingParty 42 = .ok (.iinc 3 1, 3) := by decide +kernel
theorem dX3_askingParty_45 : decode cX3_askingParty 45 = .ok (.goto (-34), 3) := by decide +kernel
theorem dX3_askingParty_48 : decode cX3_askingParty 48 = .ok (.bipush (-4), 2) := by decide +kernel
theorem dX3_askingParty_50 : decode cX3_askingParty 50 = .ok (.ireturn, 1) := by decide +kernel
set_option maxRecDepth 20000 in
theorem ggX3_ask_X1_likedBest : GoodIn wsX3_ask wsX1_likedBest := goodIn_r _ [9, 10, 11, 12, 13, 8, 14, 15, 16, 22, 23, 24, 25, 26, 27, 28, 29, 30, 31, 32, 33, 34, 35] (by decide +kernel) (by decide +kernel)
set_option maxRecDepth 20000 in
theorem gX3_ask_X1_likedBest : GoodIn wsX3_ask (wsV RX3 128 RX1 yX1_likedBest wsX1_likedBest) := goodIn_app (goodIn_of _ (by decide +kernel)) ggX3_ask_X1_likedBest
set_option maxRecDepth 20000 in
theorem ggX3_ask_X3_isLikedMore : GoodIn wsX3_ask wsX3_isLikedMore := goodIn_r _ [20, 21, 22, 23, 24, 25, 26, 27, 28, 29, 30, 31, 32, 33, 34, 35] (by decide +kernel) (by decide +kernel)
set_option maxRecDepth 20000 in
theorem gX3_ask_X3_isLikedMore : GoodIn wsX3_ask (va_wsS RX3 131 yX3_isLikedMore wsX3_isLikedMore) := goodIn_app (goodIn_of _ (by decide +kernel)) ggX3_ask_X3_isLikedMore
theorem dX3_ask_0 : decode cX3_ask 0 = .ok (.aload_n 1, 1) := by decide +kernel
theorem dX3_ask_1 : decode cX3_ask 1 = .ok (.iload_n 2, 1) := by decide +kernel
theorem dX3_ask_2 : decode cX3_ask 2 = .ok (.aload_n 1, 1) := by decide +kernel
theorem dX3_ask_3 : decode cX3_ask 3 = .ok (.getfield 125, 3) := by decide +kernel
theorem dX3_ask_6 : decode cX3_ask 6 = .ok (.iload_n 2, 1) := by decide +kernel
theorem dX3_ask_7 : decode cX3_ask 7 = .ok (.iaload, 1) := by decide +kernel
theorem dX3_ask_8 : decode cX3_ask 8 = .ok (.aload_n 0, 1) := by decide +kernel
theorem dX3_ask_9 : decode cX3_ask 9 = .ok (.getfield 30, 3) := by decide +kernel
theorem dX3_ask_12 : decode cX3_ask 12 = .ok (.iload_n 2, 1) := by decide +kernel
theorem dX3_ask_13 : decode cX3_ask 13 = .ok (.iaload, 1) := by decide +kernel
theorem dX3_ask_14 : decode cX3_ask 14 = .ok (.invokevirtual 128, 3) := by decide +kernel
theorem dX3_ask_17 : decode cX3_ask 17 = .ok (.istore_n 3, 1) := by decide +kernel
theorem dX3_ask_18 : decode cX3_ask 18 = .ok (.iload_n 3, 1) := by decide +kernel
theorem dX3_ask_19 : decode cX3_ask 19 = .ok (.bipush (-4), 2) := by decide +kernel
theorem dX3_ask_21 : decode cX3_ask 21 = .ok (.if_icmp .ne 4, 3) := by decide +kernel
theorem dX3_ask_24 : decode cX3_ask 24 = .ok (.return_, 1) := by decide +kernel
theorem dX3_ask_25 : decode cX3_ask 25 = .ok (.aload_n 0, 1) := by decide +kernel
theorem dX3_ask_26 : decode cX3_ask 26 = .ok (.getfield 30, 3) := by decide +kernel
theorem dX3_ask_29 : decode cX3_ask 29 = .ok (.iload_n 2, 1) := by decide +kernel
theorem dX3_ask_30 : decode cX3_ask 30 = .ok (.dup2, 1) := by decide +kernel
theorem dX3_ask_31 : decode cX3_ask 31 = .ok (.iaload, 1) := by decide +kernel
theorem dX3_ask_32 : decode cX3_ask 32 = .ok (.iconst 1, 1) := by decide +kernel
theorem dX3_ask_33 : decode cX3_ask 33 = .ok (.iload_n 3, 1) := by decide +kernel
theorem dX3_ask_34 : decode cX3_ask 34 = .ok (.ishl, 1) := by decide +kernel
theorem dX3_ask_35 : decode cX3_ask 35 = .ok (.ior, 1) := by decide +kernel
theorem dX3_ask_36 : decode cX3_ask 36 = .ok (.iastore, 1) := by decide +kernel
theorem dX3_ask_37 : decode cX3_ask 37 = .ok (.aload_n 0, 1) := by decide +kernel
theorem dX3_ask_38 : decode cX3_ask 38 = .ok (.getfield 33, 3) := by decide +kernel
theorem dX3_ask_41 : decode cX3_ask 41 = .ok (.iload_n 3, 1) := by decide +kernel
theorem dX3_ask_42 : decode cX3_ask 42 = .ok (.iaload, 1) := by decide +kernel
theorem dX3_ask_43 : decode cX3_ask 43 = .ok (.istore 4, 2) := by decide +kernel
theorem dX3_ask_45 : decode cX3_ask 45 = .ok (.iload 4, 2) := by decide +kernel
theorem dX3_ask_47 : decode cX3_ask 47 = .ok (.bipush (-4), 2) := by decide +kernel
theorem dX3_ask_49 : decode cX3_ask 49 = .ok (.if_icmp .eq 14, 3) := by decide +kernel
theorem dX3_ask_52 : decode cX3_ask 52 = .ok (.aload_n 1, 1) := by decide +kernel
theorem dX3_ask_53 : decode cX3_ask 53 = .ok (.iload_n 2, 1) := by decide +kernel
theorem dX3_ask_54 : decode cX3_ask 54 = .ok (.iload 4, 2) := by decide +kernel
theorem dX3_ask_56 : decode cX3_ask 56 = .ok (.invokestatic 131, 3) := by decide +kernel
theorem dX3_ask_59 : decode cX3_ask 59 = .ok (.ifCond .ne 4, 3) := by decide +kernel
theorem dX3_ask_62 : decode cX3_ask 62 = .ok (.return_, 1) := by decide +kernel
theorem dX3_ask_63 : decode cX3_ask 63 = .ok (.iload 4, 2) := by decide +kernel
theorem dX3_ask_65 : decode cX3_ask 65 = .ok (.bipush (-4), 2) := by decide +kernel
theorem dX3_ask_67 : decode cX3_ask 67 = .ok (.if_icmp .eq 12, 3) := by decide +kernel
theorem dX3_ask_70 : decode cX3_ask 70 = .ok (.aload_n 0, 1) := by decide +kernel
theorem dX3_ask_71 : decode cX3_ask 71 = .ok (.getfield 27, 3) := by decide +kernel
theorem dX3_ask_74 : decode cX3_ask 74 = .ok (.iload 4, 2) := by decide +kernel
theorem dX3_ask_76 : decode cX3_ask 76 = .ok (.bipush (-4), 2) := by decide +kernel
theorem dX3_ask_78 : decode cX3_ask 78 = .ok (.iastore, 1) := by decide +kernel
theorem dX3_ask_79 : decode cX3_ask 79 = .ok (.aload_n 0, 1) := by decide +kernel
theorem dX3_ask_80 : decode cX3_ask 80 = .ok (.getfield 33, 3) := by decide +kernel
theorem dX3_ask_83 : decode cX3_ask 83 = .ok (.iload_n 3, 1) := by decide +kernel
theorem dX3_ask_84 : decode cX3_ask 84 = .ok (.iload_n 2, 1) := by decide +kernel
theorem dX3_ask_85 : decode cX3_ask 85 = .ok (.iastore, 1) := by decide +kernel
theorem dX3_ask_86 : decode cX3_ask 86 = .ok (.aload_n 0, 1) := by decide +kernel
theorem dX3_ask_87 : decode cX3_ask 87 = .ok (.getfield 27, 3) := by decide +kernel
theorem dX3_ask_90 : decode cX3_ask 90 = .ok (.iload_n 2, 1) := by decide +kernel
theorem dX3_ask_91 : decode cX3_ask 91 = .ok (.iload_n 3, 1) := by decide +kernel
theorem dX3_ask_92 : decode cX3_ask 92 = .ok (.iastore, 1) := by decide +kernel
theorem dX3_ask_93 : decode cX3_ask 93 = .ok (.return_, 1) := by decide +kernel
theorem dX3_isLikedMore_0 : decode cX3_isLikedMore 0 = .ok (.aload_n 0, 1) := by decide +kernel
theorem dX3_isLikedMore_1 : decode cX3_isLikedMore 1 = .ok (.getfield 135, 3) := by decide +kernel
theorem dX3_isLikedMore_4 : decode cX3_isLikedMore 4 = .ok (.iload_n 2, 1) := by decide +kernel
theorem dX3_isLikedMore_5 : decode cX3_isLikedMore 5 = .ok (.iaload, 1) := by decide +kernel
theorem dX3_isLikedMore_6 : decode cX3_isLikedMore 6 = .ok (.aload_n 0, 1) := by decide +kernel
theorem dX3_isLikedMore_7 : decode cX3_isLikedMore 7 = .ok (.getfield 135, 3) := by decide +kernel
theorem dX3_isLikedMore_10 : decode cX3_isLikedMore 10 = .ok (.iload_n 1, 1) := by decide +kernel
theorem dX3_isLikedMore_11 : decode cX3_isLikedMore 11 = .ok (.iaload, 1) := by decide +kernel
theorem dX3_isLikedMore_12 : decode cX3_isLikedMore 12 = .ok (.isub, 1) := by decide +kernel
theorem dX3_isLikedMore_13 : decode cX3_isLikedMore 13 = .ok (.istore_n 3, 1) := by decide +kernel
theorem dX3_isLikedMore_14 : decode cX3_isLikedMore 14 = .ok (.iload_n 3, 1) := by decide +kernel
theorem dX3_isLikedMore_15 : decode cX3_isLikedMore 15 = .ok (.ifCond .gt 12, 3) := by decide +kernel
theorem dX3_isLikedMore_18 : decode cX3_isLikedMore 18 = .ok (.iload_n 3, 1) := by decide +kernel
theorem dX3_isLikedMore_19 : decode cX3_isLikedMore 19 = .ok (.ifCond .ne 12, 3) := by decide +kernel
theorem dX3_isLikedMore_22 : decode cX3_isLikedMore 22 = .ok (.iload_n 1, 1) := by decide +kernel
theorem dX3_isLikedMore_23 : decode cX3_isLikedMore 23 = .ok (.iload_n 2, 1) := by decide +kernel
theorem dX3_isLikedMore_24 : decode cX3_isLikedMore 24 = .ok (.if_icmp .ge 7, 3) := by decide +kernel
theorem dX3_isLikedMore_27 : decode cX3_isLikedMore 27 = .ok (.iconst 1, 1) := by decide +kernel
theorem dX3_isLikedMore_28 : decode cX3_isLikedMore 28 = .ok (.goto 4, 3) := by decide +kernel
theorem dX3_isLikedMore_31 : decode cX3_isLikedMore 31 = .ok (.iconst 0, 1) := by decide +kernel
theorem dX3_isLikedMore_32 : decode cX3_isLikedMore 32 = .ok (.ireturn, 1) := by decide +kernel
set_option maxRecDepth 20000 in
theorem ggX3_oddsOfLast_J7_fill_53178 : GoodIn wsX3_oddsOfLast wsJ7_fill_53178 := goodIn_r _ [9] (by decide +kernel) (by decide +kernel)
set_option maxRecDepth 20000 in
theorem gX3_oddsOfLast_J7_fill_53178 : GoodIn wsX3_oddsOfLast (va_wsS RX3 43 yJ7_fill_53178 wsJ7_fill_53178) := goodIn_app (goodIn_of _ (by decide +kernel)) ggX3_oddsOfLast_J7_fill_53178
set_option maxRecDepth 20000 in
theorem ggX3_oddsOfLast_X1_winnerBefore : GoodIn wsX3_oddsOfLast wsX1_winnerBefore := goodIn_r _ [14, 15, 16, 17, 18, 19, 20, 13, 21, 22, 23, 71, 72, 73, 74, 75, 76, 77, 78, 79, 80, 81, 82, 83, 84] (by decide +kernel) (by decide +kernel)
set_option maxRecDepth 20000 in
theorem gX3_oddsOfLast_X1_winnerBefore : GoodIn wsX3_oddsOfLast (wsV RX3 68 RX1 yX1_winnerBefore wsX1_winnerBefore) := goodIn_app (goodIn_of _ (by decide +kernel)) ggX3_oddsOfLast_X1_winnerBefore
set_option maxRecDepth 20000 in
theorem ggX3_oddsOfLast_X1_sitsAfter : GoodIn wsX3_oddsOfLast wsX1_sitsAfter := goodIn_r _ [27, 28, 29, 30, 31, 13, 32, 16, 17, 33, 34, 35, 36, 37, 38, 39, 40, 41, 42, 43, 44, 45, 15, 23, 71, 72, 73, 74, 75, 76, 77, 78, 79, 80, 81, 82, 83, 84] (by decide +kernel) (by decide +kernel)
set_option maxRecDepth 20000 in
theorem gX3_oddsOfLast_X1_sitsAfter : GoodIn wsX3_oddsOfLast (wsV RX3 77 RX1 yX1_sitsAfter wsX1_sitsAfter) := goodIn_app (goodIn_of _ (by decide +kernel)) ggX3_oddsOfLast_X1_sitsAfter
set_option maxRecDepth 20000 in
theorem ggX3_oddsOfLast_X1_namedBy : GoodIn wsX3_oddsOfLast wsX1_namedBy := goodIn_r _ [49, 28, 33, 34, 35, 13, 36, 37, 38, 39, 40, 41, 42, 43, 44, 45, 15, 23, 71, 72, 73, 74, 75, 76, 77, 78, 79, 80, 81, 82, 83, 84] (by decide +kernel) (by decide +kernel)
set_option maxRecDepth 20000 in
theorem gX3_oddsOfLast_X1_namedBy : GoodIn wsX3_oddsOfLast (wsV RX3 85 RX1 yX1_namedBy wsX1_namedBy) := goodIn_app (goodIn_of _ (by decide +kernel)) ggX3_oddsOfLast_X1_namedBy
set_option maxRecDepth 20000 in
theorem ggX3_oddsOfLast_X3_moveOn : GoodIn wsX3_oddsOfLast wsX3_moveOn := goodIn_r _ [54, 4, 1, 55, 56, 57, 58, 63, 64, 65, 66, 67, 68, 69, 70] (by decide +kernel) (by decide +kernel)
set_option maxRecDepth 20000 in
theorem gX3_oddsOfLast_X3_moveOn : GoodIn wsX3_oddsOfLast (wsV RX3 65 RX3 yX3_moveOn wsX3_moveOn) := goodIn_app (goodIn_of _ (by decide +kernel)) ggX3_oddsOfLast_X3_moveOn
set_option maxRecDepth 20000 in
theorem ggX3_oddsOfLast_X1_isOwn : GoodIn wsX3_oddsOfLast wsX1_isOwn := goodIn_r _ [62, 16, 17, 71, 72, 73, 74, 75, 76, 77, 78, 79, 80, 81, 82, 83, 84] (by decide +kernel) (by decide +kernel)
set_option maxRecDepth 20000 in
theorem gX3_oddsOfLast_X1_isOwn : GoodIn wsX3_oddsOfLast (wsV RX3 81 RX1 yX1_isOwn wsX1_isOwn) := goodIn_app (goodIn_of _ (by decide +kernel)) ggX3_oddsOfLast_X1_isOwn
theorem dX3_oddsOfLast_0 : decode cX3_oddsOfLast 0 = .ok (.aload_n 0, 1) := by decide +kernel
theorem dX3_oddsOfLast_1 : decode cX3_oddsOfLast 1 = .ok (.getfield 9, 3) := by decide +kernel
theorem dX3_oddsOfLast_4 : decode cX3_oddsOfLast 4 = .ok (.iconst 0, 1) := by decide +kernel
theorem dX3_oddsOfLast_5 : decode cX3_oddsOfLast 5 = .ok (.invokestatic 43, 3) := by decide +kernel
theorem dX3_oddsOfLast_8 : decode cX3_oddsOfLast 8 = .ok (.aload_n 0, 1) := by decide +kernel
theorem dX3_oddsOfLast_9 : decode cX3_oddsOfLast 9 = .ok (.getfield 9, 3) := by decide +kernel
theorem dX3_oddsOfLast_12 : decode cX3_oddsOfLast 12 = .ok (.aload_n 1, 1) := by decide +kernel
theorem dX3_oddsOfLast_13 : decode cX3_oddsOfLast 13 = .ok (.getfield 49, 3) := by decide +kernel
theorem dX3_oddsOfLast_16 : decode cX3_oddsOfLast 16 = .ok (.iconst 1, 1) := by decide +kernel
theorem dX3_oddsOfLast_17 : decode cX3_oddsOfLast 17 = .ok (.iastore, 1) := by decide +kernel
theorem dX3_oddsOfLast_18 : decode cX3_oddsOfLast 18 = .ok (.aload_n 1, 1) := by decide +kernel
theorem dX3_oddsOfLast_19 : decode cX3_oddsOfLast 19 = .ok (.getfield 55, 3) := by decide +kernel
theorem dX3_oddsOfLast_22 : decode cX3_oddsOfLast 22 = .ok (.iload_n 3, 1) := by decide +kernel
theorem dX3_oddsOfLast_23 : decode cX3_oddsOfLast 23 = .ok (.iadd, 1) := by decide +kernel
theorem dX3_oddsOfLast_24 : decode cX3_oddsOfLast 24 = .ok (.iconst 1, 1) := by decide +kernel
theorem dX3_oddsOfLast_25 : decode cX3_oddsOfLast 25 = .ok (.isub, 1) := by decide +kernel
theorem dX3_oddsOfLast_26 : decode cX3_oddsOfLast 26 = .ok (.istore 5, 2) := by decide +kernel
theorem dX3_oddsOfLast_28 : decode cX3_oddsOfLast 28 = .ok (.aload_n 1, 1) := by decide +kernel
theorem dX3_oddsOfLast_29 : decode cX3_oddsOfLast 29 = .ok (.getfield 55, 3) := by decide +kernel
theorem dX3_oddsOfLast_32 : decode cX3_oddsOfLast 32 = .ok (.istore 6, 2) := by decide +kernel
theorem dX3_oddsOfLast_34 : decode cX3_oddsOfLast 34 = .ok (.iload 6, 2) := by decide +kernel
theorem dX3_oddsOfLast_36 : decode cX3_oddsOfLast 36 = .ok (.iload 5, 2) := by decide +kernel
theorem dX3_oddsOfLast_38 : decode cX3_oddsOfLast 38 = .ok (.if_icmp .ge 106, 3) := by decide +kernel
theorem dX3_oddsOfLast_41 : decode cX3_oddsOfLast 41 = .ok (.aload_n 0, 1) := by decide +kernel
theorem dX3_oddsOfLast_42 : decode cX3_oddsOfLast 42 = .ok (.getfield 15, 3) := by decide +kernel
theorem dX3_oddsOfLast_45 : decode cX3_oddsOfLast 45 = .ok (.iconst 0, 1) := by decide +kernel
theorem dX3_oddsOfLast_46 : decode cX3_oddsOfLast 46 = .ok (.invokestatic 43, 3) := by decide +kernel
theorem dX3_oddsOfLast_49 : decode cX3_oddsOfLast 49 = .ok (.iconst 0, 1) := by decide +kernel
theorem dX3_oddsOfLast_50 : decode cX3_oddsOfLast 50 = .ok (.istore 7, 2) := by decide +kernel
theorem dX3_oddsOfLast_52 : decode cX3_oddsOfLast 52 = .ok (.iload 7, 2) := by decide +kernel
theorem dX3_oddsOfLast_54 : decode cX3_oddsOfLast 54 = .ok (.aload_n 1, 1) := by decide +kernel
theorem dX3_oddsOfLast_55 : decode cX3_oddsOfLast 55 = .ok (.getfield 58, 3) := by decide +kernel
theorem dX3_oddsOfLast_58 : decode cX3_oddsOfLast 58 = .ok (.if_icmp .ge 76, 3) := by decide +kernel
theorem dX3_oddsOfLast_61 : decode cX3_oddsOfLast 61 = .ok (.aload_n 1, 1) := by decide +kernel
theorem dX3_oddsOfLast_62 : decode cX3_oddsOfLast 62 = .ok (.iload 7, 2) := by decide +kernel
theorem dX3_oddsOfLast_64 : decode cX3_oddsOfLast 64 = .ok (.iload 6, 2) := by decide +kernel
theorem dX3_oddsOfLast_66 : decode cX3_oddsOfLast 66 = .ok (.invokevirtual 68, 3) := by decide +kernel
theorem dX3_oddsOfLast_69 : decode cX3_oddsOfLast 69 = .ok (.istore 8, 2) := by decide +kernel
theorem dX3_oddsOfLast_71 : decode cX3_oddsOfLast 71 = .ok (.aload_n 0, 1) := by decide +kernel
theorem dX3_oddsOfLast_72 : decode cX3_oddsOfLast 72 = .ok (.getfield 15, 3) := by decide +kernel
theorem dX3_oddsOfLast_75 : decode cX3_oddsOfLast 75 = .ok (.aload_n 1, 1) := by decide +kernel
theorem dX3_oddsOfLast_76 : decode cX3_oddsOfLast 76 = .ok (.iload 7, 2) := by decide +kernel
theorem dX3_oddsOfLast_78 : decode cX3_oddsOfLast 78 = .ok (.iload 6, 2) := by decide +kernel
theorem dX3_oddsOfLast_80 : decode cX3_oddsOfLast 80 = .ok (.iload 8, 2) := by decide +kernel
theorem dX3_oddsOfLast_82 : decode cX3_oddsOfLast 82 = .ok (.invokevirtual 77, 3) := by decide +kernel
theorem dX3_oddsOfLast_85 : decode cX3_oddsOfLast 85 = .ok (.dup2, 1) := by decide +kernel
theorem dX3_oddsOfLast_86 : decode cX3_oddsOfLast 86 = .ok (.iaload, 1) := by decide +kernel
theorem dX3_oddsOfLast_87 : decode cX3_oddsOfLast 87 = .ok (.aload_n 0, 1) := by decide +kernel
theorem dX3_oddsOfLast_88 : decode cX3_oddsOfLast 88 = .ok (.getfield 9, 3) := by decide +kernel
theorem dX3_oddsOfLast_91 : decode cX3_oddsOfLast 91 = .ok (.iload 7, 2) := by decide +kernel
theorem dX3_oddsOfLast_93 : decode cX3_oddsOfLast 93 = .ok (.iaload, 1) := by decide +kernel
theorem dX3_oddsOfLast_94 : decode cX3_oddsOfLast 94 = .ok (.bipush 10, 2) := by decide +kernel
theorem dX3_oddsOfLast_96 : decode cX3_oddsOfLast 96 = .ok (.iload 4, 2) := by decide +kernel
theorem dX3_oddsOfLast_98 : decode cX3_oddsOfLast 98 = .ok (.isub, 1) := by decide +kernel
theorem dX3_oddsOfLast_99 : decode cX3_oddsOfLast 99 = .ok (.imul, 1) := by decide +kernel
theorem dX3_oddsOfLast_100 : decode cX3_oddsOfLast 100 = .ok (.iadd, 1) := by decide +kernel
theorem dX3_oddsOfLast_101 : decode cX3_oddsOfLast 101 = .ok (.iastore, 1) := by decide +kernel
theorem dX3_oddsOfLast_102 : decode cX3_oddsOfLast 102 = .ok (.aload_n 0, 1) := by decide +kernel
theorem dX3_oddsOfLast_103 : decode cX3_oddsOfLast 103 = .ok (.getfield 15, 3) := by decide +kernel
theorem dX3_oddsOfLast_106 : decode cX3_oddsOfLast 106 = .ok (.aload_n 1, 1) := by decide +kernel
theorem dX3_oddsOfLast_107 : decode cX3_oddsOfLast 107 = .ok (.iload 8, 2) := by decide +kernel
theorem dX3_oddsOfLast_109 : decode cX3_oddsOfLast 109 = .ok (.iload 7, 2) := by decide +kernel
theorem dX3_oddsOfLast_111 : decode cX3_oddsOfLast 111 = .ok (.invokevirtual 85, 3) := by decide +kernel
theorem dX3_oddsOfLast_114 : decode cX3_oddsOfLast 114 = .ok (.dup2, 1) := by decide +kernel
theorem dX3_oddsOfLast_115 : decode cX3_oddsOfLast 115 = .ok (.iaload, 1) := by decide +kernel
theorem dX3_oddsOfLast_116 : decode cX3_oddsOfLast 116 = .ok (.aload_n 0, 1) := by decide +kernel
theorem dX3_oddsOfLast_117 : decode cX3_oddsOfLast 117 = .ok (.getfield 9, 3) := by decide +kernel
theorem dX3_oddsOfLast_120 : decode cX3_oddsOfLast 120 = .ok (.iload 7, 2) := by decide +kernel
theorem dX3_oddsOfLast_122 : decode cX3_oddsOfLast 122 = .ok (.iaload, 1) := by decide +kernel
theorem dX3_oddsOfLast_123 : decode cX3_oddsOfLast 123 = .ok (.iload 4, 2) := by decide +kernel
theorem dX3_oddsOfLast_125 : decode cX3_oddsOfLast 125 = .ok (.imul, 1) := by decide +kernel
theorem dX3_oddsOfLast_126 : decode cX3_oddsOfLast 126 = .ok (.iadd, 1) := by decide +kernel
theorem dX3_oddsOfLast_127 : decode cX3_oddsOfLast 127 = .ok (.iastore, 1) := by decide +kernel
theorem dX3_oddsOfLast_128 : decode cX3_oddsOfLast 128 = .ok (.iinc 7 1, 3) := by decide +kernel
theorem dX3_oddsOfLast_131 : decode cX3_oddsOfLast 131 = .ok (.goto (-79), 3) := by decide +kernel
theorem dX3_oddsOfLast_134 : decode cX3_oddsOfLast 134 = .ok (.aload_n 0, 1) := by decide +kernel
theorem dX3_oddsOfLast_135 : decode cX3_oddsOfLast 135 = .ok (.invokevirtual 65, 3) := by decide +kernel
theorem dX3_oddsOfLast_138 : decode cX3_oddsOfLast 138 = .ok (.iinc 6 1, 3) := by decide +kernel
theorem dX3_oddsOfLast_141 : decode cX3_oddsOfLast 141 = .ok (.goto (-107), 3) := by decide +kernel
theorem dX3_oddsOfLast_144 : decode cX3_oddsOfLast 144 = .ok (.iconst 0, 1) := by decide +kernel
theorem dX3_oddsOfLast_145 : decode cX3_oddsOfLast 145 = .ok (.istore 6, 2) := by decide +kernel
theorem dX3_oddsOfLast_147 : decode cX3_oddsOfLast 147 = .ok (.iconst 0, 1) := by decide +kernel
theorem dX3_oddsOfLast_148 : decode cX3_oddsOfLast 148 = .ok (.istore 7, 2) := by decide +kernel
theorem dX3_oddsOfLast_150 : decode cX3_oddsOfLast 150 = .ok (.iload 7, 2) := by decide +kernel
theorem dX3_oddsOfLast_152 : decode cX3_oddsOfLast 152 = .ok (.aload_n 1, 1) := by decide +kernel
theorem dX3_oddsOfLast_153 : decode cX3_oddsOfLast 153 = .ok (.getfield 58, 3) := by decide +kernel
theorem dX3_oddsOfLast_156 : decode cX3_oddsOfLast 156 = .ok (.if_icmp .ge 54, 3) := by decide +kernel
theorem dX3_oddsOfLast_159 : decode cX3_oddsOfLast 159 = .ok (.aload_n 1, 1) := by decide +kernel
theorem dX3_oddsOfLast_160 : decode cX3_oddsOfLast 160 = .ok (.iload_n 2, 1) := by decide +kernel
theorem dX3_oddsOfLast_161 : decode cX3_oddsOfLast 161 = .ok (.iload 5, 2) := by decide +kernel
theorem dX3_oddsOfLast_163 : decode cX3_oddsOfLast 163 = .ok (.invokevirtual 81, 3) := by decide +kernel
theorem dX3_oddsOfLast_166 : decode cX3_oddsOfLast 166 = .ok (.ifCond .eq 38, 3) := by decide +kernel
theorem dX3_oddsOfLast_169 : decode cX3_oddsOfLast 169 = .ok (.iload 6, 2) := by decide +kernel
theorem dX3_oddsOfLast_171 : decode cX3_oddsOfLast 171 = .ok (.aload_n 0, 1) := by decide +kernel
theorem dX3_oddsOfLast_172 : decode cX3_oddsOfLast 172 = .ok (.getfield 9, 3) := by decide +kernel
theorem dX3_oddsOfLast_175 : decode cX3_oddsOfLast 175 = .ok (.iload 7, 2) := by decide +kernel
theorem dX3_oddsOfLast_177 : decode cX3_oddsOfLast 177 = .ok (.iaload, 1) := by decide +kernel
theorem dX3_oddsOfLast_178 : decode cX3_oddsOfLast 178 = .ok (.aload_n 1, 1) := by decide +kernel
theorem dX3_oddsOfLast_179 : decode cX3_oddsOfLast 179 = .ok (.iload 7, 2) := by decide +kernel
theorem dX3_oddsOfLast_181 : decode cX3_oddsOfLast 181 = .ok (.iload 5, 2) := by decide +kernel
theorem dX3_oddsOfLast_183 : decode cX3_oddsOfLast 183 = .ok (.invokevirtual 68, 3) := by decide +kernel
theorem dX3_oddsOfLast_186 : decode cX3_oddsOfLast 186 = .ok (.iload_n 2, 1) := by decide +kernel
theorem dX3_oddsOfLast_187 : decode cX3_oddsOfLast 187 = .ok (.if_icmp .ne 11, 3) := by decide +kernel
theorem dX3_oddsOfLast_190 : decode cX3_oddsOfLast 190 = .ok (.bipush 10, 2) := by decide +kernel
theorem dX3_oddsOfLast_192 : decode cX3_oddsOfLast 192 = .ok (.iload 4, 2) := by decide +kernel
theorem dX3_oddsOfLast_194 : decode cX3_oddsOfLast 194 = .ok (.isub, 1) := by decide +kernel
theorem dX3_oddsOfLast_195 : decode cX3_oddsOfLast 195 = .ok (.goto 5, 3) := by decide +kernel
theorem dX3_oddsOfLast_198 : decode cX3_oddsOfLast 198 = .ok (.iload 4, 2) := by decide +kernel
theorem dX3_oddsOfLast_200 : decode cX3_oddsOfLast 200 = .ok (.imul, 1) := by decide +kernel
theorem dX3_oddsOfLast_201 : decode cX3_oddsOfLast 201 = .ok (.iadd, 1) := by decide +kernel
theorem dX3_oddsOfLast_202 : decode cX3_oddsOfLast 202 = .ok (.istore 6, 2) := by decide +kernel
theorem dX3_oddsOfLast_204 : decode cX3_oddsOfLast 204 = .ok (.iinc 7 1, 3) := by decide +kernel
theorem dX3_oddsOfLast_207 : decode cX3_oddsOfLast 207 = .ok (.goto (-57), 3) := by decide +kernel
theorem dX3_oddsOfLast_210 : decode cX3_oddsOfLast 210 = .ok (.iload 6, 2) := by decide +kernel
theorem dX3_oddsOfLast_212 : decode cX3_oddsOfLast 212 = .ok (.ireturn, 1) := by decide +kernel
set_option maxRecDepth 20000 in
theorem ggX4_init_X0_init : GoodIn wsX4_init wsX0_init := goodIn_r _ [11, 12, 2, 3, 13, 14, 15, 16, 17, 18, 22, 23, 24, 25, 26, 27] (by decide +kernel) (by decide +kernel)
set_option maxRecDepth 20000 in
theorem gX4_init_X0_init_n24 : GoodIn wsX4_init (wsX0_init) := ggX4_init_X0_init
theorem dX4_init_0 : decode cX4_init 0 = .ok (.aload_n 0, 1) := by decide +kernel
theorem dX4_init_1 : decode cX4_init 1 = .ok (.invokespecial 3, 3) := by decide +kernel
theorem dX4_init_4 : decode cX4_init 4 = .ok (.aload_n 0, 1) := by decide +kernel
theorem dX4_init_5 : decode cX4_init 5 = .ok (.bipush 24, 2) := by decide +kernel
theorem dX4_init_7 : decode cX4_init 7 = .ok (.anewarray 9, 3) := by decide +kernel
theorem dX4_init_10 : decode cX4_init 10 = .ok (.putfield 11, 3) := by decide +kernel
theorem dX4_init_13 : decode cX4_init 13 = .ok (.aload_n 0, 1) := by decide +kernel
theorem dX4_init_14 : decode cX4_init 14 = .ok (.iconst 0, 1) := by decide +kernel
theorem dX4_init_15 : decode cX4_init 15 = .ok (.putfield 17, 3) := by decide +kernel
theorem dX4_init_18 : decode cX4_init 18 = .ok (.aload_n 0, 1) := by decide +kernel
theorem dX4_init_19 : decode cX4_init 19 = .ok (.iconst 0, 1) := by decide +kernel
theorem dX4_init_20 : decode cX4_init 20 = .ok (.putfield 21, 3) := by decide +kernel
theorem dX4_init_23 : decode cX4_init 23 = .ok (.iconst 0, 1) := by decide +kernel
theorem dX4_init_24 : decode cX4_init 24 = .ok (.istore_n 1, 1) := by decide +kernel
theorem dX4_init_25 : decode cX4_init 25 = .ok (.iload_n 1, 1) := by decide +kernel
theorem dX4_init_26 : decode cX4_init 26 = .ok (.bipush 24, 2) := by decide +kernel
theorem dX4_init_28 : decode cX4_init 28 = .ok (.if_icmp .ge 22, 3) := by decide +kernel
theorem dX4_init_31 : decode cX4_init 31 = .ok (.aload_n 0, 1) := by decide +kernel
theorem dX4_init_32 : decode cX4_init 32 = .ok (.getfield 11, 3) := by decide +kernel
theorem dX4_init_35 : decode cX4_init 35 = .ok (.iload_n 1, 1) := by decide +kernel
theorem dX4_init_36 : decode cX4_init 36 = .ok (.new 9, 3) := by decide +kernel
theorem dX4_init_39 : decode cX4_init 39 = .ok (.dup, 1) := by decide +kernel
theorem dX4_init_40 : decode cX4_init 40 = .ok (.invokespecial 24, 3) := by decide +kernel
theorem dX4_init_43 : decode cX4_init 43 = .ok (.aastore, 1) := by decide +kernel
theorem dX4_init_44 : decode cX4_init 44 = .ok (.iinc 1 1, 3) := by decide +kernel
theorem dX4_init_47 : decode cX4_init 47 = .ok (.goto (-22), 3) := by decide +kernel
theorem dX4_init_50 : decode cX4_init 50 = .ok (.return_, 1) := by decide +kernel
theorem dX4_begin_0 : decode cX4_begin 0 = .ok (.aload_n 0, 1) := by decide +kernel
theorem dX4_begin_1 : decode cX4_begin 1 = .ok (.aload_n 0, 1) := by decide +kernel
theorem dX4_begin_2 : decode cX4_begin 2 = .ok (.getfield 21, 3) := by decide +kernel
theorem dX4_begin_5 : decode cX4_begin 5 = .ok (.iconst 1, 1) := by decide +kernel
theorem dX4_begin_6 : decode cX4_begin 6 = .ok (.iadd, 1) := by decide +kernel
theorem dX4_begin_7 : decode cX4_begin 7 = .ok (.bipush 24, 2) := by decide +kernel
theorem dX4_begin_9 : decode cX4_begin 9 = .ok (.if_icmp .ge 12, 3) := by decide +kernel
theorem dX4_begin_12 : decode cX4_begin 12 = .ok (.aload_n 0, 1) := by decide +kernel
theorem dX4_begin_13 : decode cX4_begin 13 = .ok (.getfield 21, 3) := by decide +kernel
theorem dX4_begin_16 : decode cX4_begin 16 = .ok (.iconst 1, 1) := by decide +kernel
theorem dX4_begin_17 : decode cX4_begin 17 = .ok (.iadd, 1) := by decide +kernel
theorem dX4_begin_18 : decode cX4_begin 18 = .ok (.goto 4, 3) := by decide +kernel
theorem dX4_begin_21 : decode cX4_begin 21 = .ok (.iconst 0, 1) := by decide +kernel
theorem dX4_begin_22 : decode cX4_begin 22 = .ok (.putfield 21, 3) := by decide +kernel
theorem dX4_begin_25 : decode cX4_begin 25 = .ok (.aload_n 0, 1) := by decide +kernel
theorem dX4_begin_26 : decode cX4_begin 26 = .ok (.aload_n 0, 1) := by decide +kernel
theorem dX4_begin_27 : decode cX4_begin 27 = .ok (.getfield 17, 3) := by decide +kernel
theorem dX4_begin_30 : decode cX4_begin 30 = .ok (.iconst 1, 1) := by decide +kernel
theorem dX4_begin_31 : decode cX4_begin 31 = .ok (.iadd, 1) := by decide +kernel
theorem dX4_begin_32 : decode cX4_begin 32 = .ok (.bipush 24, 2) := by decide +kernel
theorem dX4_begin_34 : decode cX4_begin 34 = .ok (.invokestatic 25, 3) := by decide +kernel
theorem dX4_begin_37 : decode cX4_begin 37 = .ok (.putfield 17, 3) := by decide +kernel
theorem dX4_begin_40 : decode cX4_begin 40 = .ok (.aload_n 0, 1) := by decide +kernel
theorem dX4_begin_41 : decode cX4_begin 41 = .ok (.getfield 11, 3) := by decide +kernel
theorem dX4_begin_44 : decode cX4_begin 44 = .ok (.aload_n 0, 1) := by decide +kernel
theorem dX4_begin_45 : decode cX4_begin 45 = .ok (.getfield 21, 3) := by decide +kernel
theorem dX4_begin_48 : decode cX4_begin 48 = .ok (.aaload, 1) := by decide +kernel
theorem dX4_begin_49 : decode cX4_begin 49 = .ok (.astore 4, 2) := by decide +kernel
theorem dX4_begin_51 : decode cX4_begin 51 = .ok (.aload 4, 2) := by decide +kernel
theorem dX4_begin_53 : decode cX4_begin 53 = .ok (.iload_n 1, 1) := by decide +kernel
theorem dX4_begin_54 : decode cX4_begin 54 = .ok (.putfield 31, 3) := by decide +kernel
theorem dX4_begin_57 : decode cX4_begin 57 = .ok (.aload 4, 2) := by decide +kernel
theorem dX4_begin_59 : decode cX4_begin 59 = .ok (.iload_n 2, 1) := by decide +kernel
theorem dX4_begin_60 : decode cX4_begin 60 = .ok (.putfield 34, 3) := by decide +kernel
theorem dX4_begin_63 : decode cX4_begin 63 = .ok (.aload 4, 2) := by decide +kernel
theorem dX4_begin_65 : decode cX4_begin 65 = .ok (.iload_n 3, 1) := by decide +kernel
theorem dX4_begin_66 : decode cX4_begin 66 = .ok (.putfield 37, 3) := by decide +kernel
theorem dX4_begin_69 : decode cX4_begin 69 = .ok (.aload 4, 2) := by decide +kernel
theorem dX4_begin_71 : decode cX4_begin 71 = .ok (.areturn, 1) := by decide +kernel
theorem dX4_latest_0 : decode cX4_latest 0 = .ok (.aload_n 0, 1) := by decide +kernel
theorem dX4_latest_1 : decode cX4_latest 1 = .ok (.getfield 11, 3) := by decide +kernel
theorem dX4_latest_4 : decode cX4_latest 4 = .ok (.aload_n 0, 1) := by decide +kernel
theorem dX4_latest_5 : decode cX4_latest 5 = .ok (.getfield 21, 3) := by decide +kernel
theorem dX4_latest_8 : decode cX4_latest 8 = .ok (.aaload, 1) := by decide +kernel
theorem dX4_latest_9 : decode cX4_latest 9 = .ok (.areturn, 1) := by decide +kernel
theorem dX4_forgetLatest_0 : decode cX4_forgetLatest 0 = .ok (.aload_n 0, 1) := by decide +kernel
theorem dX4_forgetLatest_1 : decode cX4_forgetLatest 1 = .ok (.aload_n 0, 1) := by decide +kernel
theorem dX4_forgetLatest_2 : decode cX4_forgetLatest 2 = .ok (.getfield 21, 3) := by decide +kernel
theorem dX4_forgetLatest_5 : decode cX4_forgetLatest 5 = .ok (.ifCond .le 12, 3) := by decide +kernel
theorem dX4_forgetLatest_8 : decode cX4_forgetLatest 8 = .ok (.aload_n 0, 1) := by decide +kernel
theorem dX4_forgetLatest_9 : decode cX4_forgetLatest 9 = .ok (.getfield 21, 3) := by decide +kernel
theorem dX4_forgetLatest_12 : decode cX4_forgetLatest 12 = .ok (.iconst 1, 1) := by decide +kernel
theorem dX4_forgetLatest_13 : decode cX4_forgetLatest 13 = .ok (.isub, 1) := by decide +kernel
theorem dX4_forgetLatest_14 : decode cX4_forgetLatest 14 = .ok (.goto 5, 3) := by decide +kernel
theorem dX4_forgetLatest_17 : decode cX4_forgetLatest 17 = .ok (.bipush 23, 2) := by decide +kernel
theorem dX4_forgetLatest_19 : decode cX4_forgetLatest 19 = .ok (.putfield 21, 3) := by decide +kernel
theorem dX4_forgetLatest_22 : decode cX4_forgetLatest 22 = .ok (.aload_n 0, 1) := by decide +kernel
theorem dX4_forgetLatest_23 : decode cX4_forgetLatest 23 = .ok (.dup, 1) := by decide +kernel
theorem dX4_forgetLatest_24 : decode cX4_forgetLatest 24 = .ok (.getfield 17, 3) := by decide +kernel
theorem dX4_forgetLatest_27 : decode cX4_forgetLatest 27 = .ok (.iconst 1, 1) := by decide +kernel
theorem dX4_forgetLatest_28 : decode cX4_forgetLatest 28 = .ok (.isub, 1) := by decide +kernel
theorem dX4_forgetLatest_29 : decode cX4_forgetLatest 29 = .ok (.putfield 17, 3) := by decide +kernel
theorem dX4_forgetLatest_32 : decode cX4_forgetLatest 32 = .ok (.return_, 1) := by decide +kernel
theorem dX5_init_0 : decode cX5_init 0 = .ok (.aload_n 0, 1) := by decide +kernel
theorem dX5_init_1 : decode cX5_init 1 = .ok (.invokespecial 3, 3) := by decide +kernel
theorem dX5_init_4 : decode cX5_init 4 = .ok (.aload_n 0, 1) := by decide +kernel
theorem dX5_init_5 : decode cX5_init 5 = .ok (.bipush 24, 2) := by decide +kernel
theorem dX5_init_7 : decode cX5_init 7 = .ok (.newarray .long, 2) := by decide +kernel
theorem dX5_init_9 : decode cX5_init 9 = .ok (.putfield 9, 3) := by decide +kernel
theorem dX5_init_12 : decode cX5_init 12 = .ok (.aload_n 0, 1) := by decide +kernel
theorem dX5_init_13 : decode cX5_init 13 = .ok (.iconst 0, 1) := by decide +kernel
theorem dX5_init_14 : decode cX5_init 14 = .ok (.putfield 15, 3) := by decide +kernel
theorem dX5_init_17 : decode cX5_init 17 = .ok (.aload_n 0, 1) := by decide +kernel
theorem dX5_init_18 : decode cX5_init 18 = .ok (.iconst 0, 1) := by decide +kernel
theorem dX5_init_19 : decode cX5_init 19 = .ok (.putfield 19, 3) := by decide +kernel
theorem dX5_init_22 : decode cX5_init 22 = .ok (.aload_n 0, 1) := by decide +kernel
theorem dX5_init_23 : decode cX5_init 23 = .ok (.iconst 0, 1) := by decide +kernel
theorem dX5_init_24 : decode cX5_init 24 = .ok (.putfield 23, 3) := by decide +kernel
theorem dX5_init_27 : decode cX5_init 27 = .ok (.return_, 1) := by decide +kernel
set_option maxRecDepth 20000 in
theorem ggX5_lay_J7_fill_d0a16 : GoodIn wsX5_lay wsJ7_fill_d0a16 := goodIn_r _ [8] (by decide +kernel) (by decide +kernel)
set_option maxRecDepth 20000 in
theorem gX5_lay_J7_fill_d0a16 : GoodIn wsX5_lay (va_wsS RX5 26 yJ7_fill_d0a16 wsJ7_fill_d0a16) := goodIn_app (goodIn_of _ (by decide +kernel)) ggX5_lay_J7_fill_d0a16
theorem dX5_lay_0 : decode cX5_lay 0 = .ok (.aload_n 0, 1) := by decide +kernel
theorem dX5_lay_1 : decode cX5_lay 1 = .ok (.getfield 9, 3) := by decide +kernel
theorem dX5_lay_4 : decode cX5_lay 4 = .ok (.lconst 0, 1) := by decide +kernel
theorem dX5_lay_5 : decode cX5_lay 5 = .ok (.invokestatic 26, 3) := by decide +kernel
theorem dX5_lay_8 : decode cX5_lay 8 = .ok (.aload_n 0, 1) := by decide +kernel
theorem dX5_lay_9 : decode cX5_lay 9 = .ok (.iconst 1, 1) := by decide +kernel
theorem dX5_lay_10 : decode cX5_lay 10 = .ok (.putfield 15, 3) := by decide +kernel
theorem dX5_lay_13 : decode cX5_lay 13 = .ok (.aload_n 0, 1) := by decide +kernel
theorem dX5_lay_14 : decode cX5_lay 14 = .ok (.iload_n 1, 1) := by decide +kernel
theorem dX5_lay_15 : decode cX5_lay 15 = .ok (.putfield 19, 3) := by decide +kernel
theorem dX5_lay_18 : decode cX5_lay 18 = .ok (.aload_n 0, 1) := by decide +kernel
theorem dX5_lay_19 : decode cX5_lay 19 = .ok (.iload_n 2, 1) := by decide +kernel
theorem dX5_lay_20 : decode cX5_lay 20 = .ok (.putfield 23, 3) := by decide +kernel
theorem dX5_lay_23 : decode cX5_lay 23 = .ok (.return_, 1) := by decide +kernel
theorem dX5_reaches_0 : decode cX5_reaches 0 = .ok (.iload_n 1, 1) := by decide +kernel
theorem dX5_reaches_1 : decode cX5_reaches 1 = .ok (.ifCond .lt 21, 3) := by decide +kernel
theorem dX5_reaches_4 : decode cX5_reaches 4 = .ok (.iload_n 2, 1) := by decide +kernel
theorem dX5_reaches_5 : decode cX5_reaches 5 = .ok (.ifCond .lt 17, 3) := by decide +kernel
theorem dX5_reaches_8 : decode cX5_reaches 8 = .ok (.iload_n 1, 1) := by decide +kernel
theorem dX5_reaches_9 : decode cX5_reaches 9 = .ok (.aload_n 0, 1) := by decide +kernel
theorem dX5_reaches_10 : decode cX5_reaches 10 = .ok (.getfield 23, 3) := by decide +kernel
theorem dX5_reaches_13 : decode cX5_reaches 13 = .ok (.iload_n 2, 1) := by decide +kernel
theorem dX5_reaches_14 : decode cX5_reaches 14 = .ok (.isub, 1) := by decide +kernel
theorem dX5_reaches_15 : decode cX5_reaches 15 = .ok (.if_icmp .gt 7, 3) := by decide +kernel
theorem dX5_reaches_18 : decode cX5_reaches 18 = .ok (.iconst 1, 1) := by decide +kernel
theorem dX5_reaches_19 : decode cX5_reaches 19 = .ok (.goto 4, 3) := by decide +kernel
theorem dX5_reaches_22 : decode cX5_reaches 22 = .ok (.iconst 0, 1) := by decide +kernel
theorem dX5_reaches_23 : decode cX5_reaches 23 = .ok (.ireturn, 1) := by decide +kernel
set_option maxRecDepth 20000 in
theorem ggX5_refusal_X5_reaches : GoodIn wsX5_refusal wsX5_reaches := goodIn_r _ [7, 8, 9, 10, 11, 12] (by decide +kernel) (by decide +kernel)
set_option maxRecDepth 20000 in
theorem gX5_refusal_X5_reaches : GoodIn wsX5_refusal (wsV RX5 32 RX5 yX5_reaches wsX5_reaches) := goodIn_app (goodIn_of _ (by decide +kernel)) ggX5_refusal_X5_reaches
theorem dX5_refusal_0 : decode cX5_refusal 0 = .ok (.aload_n 0, 1) := by decide +kernel
theorem dX5_refusal_1 : decode cX5_refusal 1 = .ok (.getfield 15, 3) := by decide +kernel
theorem dX5_refusal_4 : decode cX5_refusal 4 = .ok (.ifCond .ne 6, 3) := by decide +kernel
theorem dX5_refusal_7 : decode cX5_refusal 7 = .ok (.bipush (-11), 2) := by decide +kernel
theorem dX5_refusal_9 : decode cX5_refusal 9 = .ok (.ireturn, 1) := by decide +kernel
theorem dX5_refusal_10 : decode cX5_refusal 10 = .ok (.aload_n 0, 1) := by decide +kernel
theorem dX5_refusal_11 : decode cX5_refusal 11 = .ok (.getfield 19, 3) := by decide +kernel
theorem dX5_refusal_14 : decode cX5_refusal 14 = .ok (.iload_n 1, 1) := by decide +kernel
theorem dX5_refusal_15 : decode cX5_refusal 15 = .ok (.if_icmp .eq 6, 3) := by decide +kernel
theorem dX5_refusal_18 : decode cX5_refusal 18 = .ok (.bipush (-12), 2) := by decide +kernel
theorem dX5_refusal_20 : decode cX5_refusal 20 = .ok (.ireturn, 1) := by decide +kernel
theorem dX5_refusal_21 : decode cX5_refusal 21 = .ok (.aload_n 0, 1) := by decide +kernel
theorem dX5_refusal_22 : decode cX5_refusal 22 = .ok (.iload_n 2, 1) := by decide +kernel
theorem dX5_refusal_23 : decode cX5_refusal 23 = .ok (.iload_n 3, 1) := by decide +kernel
theorem dX5_refusal_24 : decode cX5_refusal 24 = .ok (.invokevirtual 32, 3) := by decide +kernel
theorem dX5_refusal_27 : decode cX5_refusal 27 = .ok (.ifCond .eq 7, 3) := by decide +kernel
theorem dX5_refusal_30 : decode cX5_refusal 30 = .ok (.iconst 0, 1) := by decide +kernel
theorem dX5_refusal_31 : decode cX5_refusal 31 = .ok (.goto 5, 3) := by decide +kernel
theorem dX5_refusal_34 : decode cX5_refusal 34 = .ok (.bipush (-13), 2) := by decide +kernel
theorem dX5_refusal_36 : decode cX5_refusal 36 = .ok (.ireturn, 1) := by decide +kernel
set_option maxRecDepth 20000 in
theorem ggX5_put_X5_cut : GoodIn wsX5_put wsX5_cut := goodIn_r _ [6, 7, 8, 9, 10, 11] (by decide +kernel) (by decide +kernel)
set_option maxRecDepth 20000 in
theorem gX5_put_X5_cut : GoodIn wsX5_put (wsV RX5 36 RX5 yX5_cut wsX5_cut) := goodIn_app (goodIn_of _ (by decide +kernel)) ggX5_put_X5_cut
theorem dX5_put_0 : decode cX5_put 0 = .ok (.aload_n 0, 1) := by decide +kernel
theorem dX5_put_1 : decode cX5_put 1 = .ok (.getfield 9, 3) := by decide +kernel
theorem dX5_put_4 : decode cX5_put 4 = .ok (.iload_n 1, 1) := by decide +kernel
theorem dX5_put_5 : decode cX5_put 5 = .ok (.aload_n 0, 1) := by decide +kernel
theorem dX5_put_6 : decode cX5_put 6 = .ok (.lload_n 2, 1) := by decide +kernel
theorem dX5_put_7 : decode cX5_put 7 = .ok (.invokevirtual 36, 3) := by decide +kernel
theorem dX5_put_10 : decode cX5_put 10 = .ok (.lastore, 1) := by decide +kernel
theorem dX5_put_11 : decode cX5_put 11 = .ok (.aload_n 0, 1) := by decide +kernel
theorem dX5_put_12 : decode cX5_put 12 = .ok (.getfield 9, 3) := by decide +kernel
theorem dX5_put_15 : decode cX5_put 15 = .ok (.iload_n 1, 1) := by decide +kernel
theorem dX5_put_16 : decode cX5_put 16 = .ok (.laload, 1) := by decide +kernel
theorem dX5_put_17 : decode cX5_put 17 = .ok (.lreturn, 1) := by decide +kernel
theorem dX5_cut_0 : decode cX5_cut 0 = .ok (.aload_n 0, 1) := by decide +kernel
theorem dX5_cut_1 : decode cX5_cut 1 = .ok (.getfield 19, 3) := by decide +kernel
theorem dX5_cut_4 : decode cX5_cut 4 = .ok (.tableswitch 42 0 2 #[28, 33, 38], 28) := by decide +kernel
theorem dX5_cut_32 : decode cX5_cut 32 = .ok (.lload_n 1, 1) := by decide +kernel
theorem dX5_cut_33 : decode cX5_cut 33 = .ok (.l2i, 1) := by decide +kernel
theorem dX5_cut_34 : decode cX5_cut 34 = .ok (.i2b, 1) := by decide +kernel
theorem dX5_cut_35 : decode cX5_cut 35 = .ok (.i2l, 1) := by decide +kernel
theorem dX5_cut_36 : decode cX5_cut 36 = .ok (.lreturn, 1) := by decide +kernel
theorem dX5_cut_37 : decode cX5_cut 37 = .ok (.lload_n 1, 1) := by decide +kernel
theorem dX5_cut_38 : decode cX5_cut 38 = .ok (.l2i, 1) := by decide +kernel
theorem dX5_cut_39 : decode cX5_cut 39 = .ok (.i2s, 1) := by decide +kernel
theorem dX5_cut_40 : decode cX5_cut 40 = .ok (.i2l, 1) := by decide +kernel
theorem dX5_cut_41 : decode cX5_cut 41 = .ok (.lreturn, 1) := by decide +kernel
theorem dX5_cut_42 : decode cX5_cut 42 = .ok (.lload_n 1, 1) := by decide +kernel
theorem dX5_cut_43 : decode cX5_cut 43 = .ok (.l2i, 1) := by decide +kernel
theorem dX5_cut_44 : decode cX5_cut 44 = .ok (.i2l, 1) := by decide +kernel
theorem dX5_cut_45 : decode cX5_cut 45 = .ok (.lreturn, 1) := by decide +kernel
theorem dX5_cut_46 : decode cX5_cut 46 = .ok (.lload_n 1, 1) := by decide +kernel
theorem dX5_cut_47 : decode cX5_cut 47 = .ok (.lreturn, 1) := by decide +kernel
theorem dX6_init_0 : decode cX6_init 0 = .ok (.aload_n 0, 1) := by decide +kernel
theorem dX6_init_1 : decode cX6_init 1 = .ok (.invokespecial 3, 3) := by decide +kernel
theorem dX6_init_4 : decode cX6_init 4 = .ok (.aload_n 0, 1) := by decide +kernel
theorem dX6_init_5 : decode cX6_init 5 = .ok (.sipush 130, 3) := by decide +kernel
theorem dX6_init_8 : decode cX6_init 8 = .ok (.newarray .int, 2) := by decide +kernel
theorem dX6_init_10 : decode cX6_init 10 = .ok (.putfield 9, 3) := by decide +kernel
theorem dX6_init_13 : decode cX6_init 13 = .ok (.aload_n 0, 1) := by decide +kernel
theorem dX6_init_14 : decode cX6_init 14 = .ok (.iconst 0, 1) := by decide +kernel
theorem dX6_init_15 : decode cX6_init 15 = .ok (.putfield 15, 3) := by decide +kernel
theorem dX6_init_18 : decode cX6_init 18 = .ok (.aload_n 0, 1) := by decide +kernel
theorem dX6_init_19 : decode cX6_init 19 = .ok (.iconst 0, 1) := by decide +kernel
theorem dX6_init_20 : decode cX6_init 20 = .ok (.putfield 19, 3) := by decide +kernel
theorem dX6_init_23 : decode cX6_init 23 = .ok (.return_, 1) := by decide +kernel
theorem dX6_append_0 : decode cX6_append 0 = .ok (.aload_n 0, 1) := by decide +kernel
theorem dX6_append_1 : decode cX6_append 1 = .ok (.getfield 15, 3) := by decide +kernel
theorem dX6_append_4 : decode cX6_append 4 = .ok (.sipush 130, 3) := by decide +kernel
theorem dX6_append_7 : decode cX6_append 7 = .ok (.if_icmp .lt 5, 3) := by decide +kernel
theorem dX6_append_10 : decode cX6_append 10 = .ok (.iconst 0, 1) := by decide +kernel
theorem dX6_append_11 : decode cX6_append 11 = .ok (.ireturn, 1) := by decide +kernel
theorem dX6_append_12 : decode cX6_append 12 = .ok (.aload_n 0, 1) := by decide +kernel
theorem dX6_append_13 : decode cX6_append 13 = .ok (.getfield 9, 3) := by decide +kernel
theorem dX6_append_16 : decode cX6_append 16 = .ok (.aload_n 0, 1) := by decide +kernel
theorem dX6_append_17 : decode cX6_append 17 = .ok (.getfield 15, 3) := by decide +kernel
theorem dX6_append_20 : decode cX6_append 20 = .ok (.iload_n 1, 1) := by decide +kernel
theorem dX6_append_21 : decode cX6_append 21 = .ok (.iastore, 1) := by decide +kernel
theorem dX6_append_22 : decode cX6_append 22 = .ok (.aload_n 0, 1) := by decide +kernel
theorem dX6_append_23 : decode cX6_append 23 = .ok (.dup, 1) := by decide +kernel
theorem dX6_append_24 : decode cX6_append 24 = .ok (.getfield 15, 3) := by decide +kernel
theorem dX6_append_27 : decode cX6_append 27 = .ok (.iconst 1, 1) := by decide +kernel
theorem dX6_append_28 : decode cX6_append 28 = .ok (.iadd, 1) := by decide +kernel
theorem dX6_append_29 : decode cX6_append 29 = .ok (.putfield 15, 3) := by decide +kernel
theorem dX6_append_32 : decode cX6_append 32 = .ok (.iconst 1, 1) := by decide +kernel
theorem dX6_append_33 : decode cX6_append 33 = .ok (.ireturn, 1) := by decide +kernel
set_option maxRecDepth 20000 in
theorem ggX6_readInto_X1_clear : GoodIn wsX6_readInto wsX1_clear := goodIn_r _ [7, 8, 9, 10, 11, 12, 67, 68, 69, 70, 71, 72, 73, 74, 75, 76, 77, 78, 79, 80] (by decide +kernel) (by decide +kernel)
set_option maxRecDepth 20000 in
theorem gX6_readInto_X1_clear : GoodIn wsX6_readInto (wsV RX6 22 RX1 yX1_clear wsX1_clear) := goodIn_app (goodIn_of _ (by decide +kernel)) ggX6_readInto_X1_clear
set_option maxRecDepth 20000 in
theorem ggX6_readInto_X6_takes : GoodIn wsX6_readInto wsX6_takes := goodIn_r _ [17, 1, 18, 19, 20, 16, 21, 2, 22, 64, 65, 66] (by decide +kernel) (by decide +kernel)
set_option maxRecDepth 20000 in
theorem gX6_readInto_X6_takes : GoodIn wsX6_readInto (wsV RX6 27 RX6 yX6_takes wsX6_takes) := goodIn_app (goodIn_of _ (by decide +kernel)) ggX6_readInto_X6_takes
set_option maxRecDepth 20000 in
theorem ggX6_readInto_X6_readParties : GoodIn wsX6_readInto wsX6_readParties := goodIn_r _ [26, 27, 1, 28, 29, 30, 31, 32, 33, 16, 34, 18, 19, 20, 21, 2, 22, 35, 36, 37, 38, 13, 14, 15, 17, 67, 68, 69, 70, 71, 72, 73, 74, 75, 76, 77, 78, 79, 80, 64, 65, 66] (by decide +kernel) (by decide +kernel)
set_option maxRecDepth 20000 in
theorem gX6_readInto_X6_readParties : GoodIn wsX6_readInto (wsV RX6 31 RX6 yX6_readParties wsX6_readParties) := goodIn_app (goodIn_of _ (by decide +kernel)) ggX6_readInto_X6_readParties
set_option maxRecDepth 20000 in
theorem ggX6_readInto_X6_readJudges : GoodIn wsX6_readInto wsX6_readJudges := goodIn_r _ [42, 43, 44, 30, 45, 35, 36, 37, 16, 38, 1, 18, 19, 20, 21, 2, 22, 13, 14, 15, 17, 67, 68, 69, 70, 71, 72, 73, 74, 75, 76, 77, 78, 79, 80, 64, 65, 66] (by decide +kernel) (by decide +kernel)
set_option maxRecDepth 20000 in
theorem gX6_readInto_X6_readJudges : GoodIn wsX6_readInto (wsV RX6 35 RX6 yX6_readJudges wsX6_readJudges) := goodIn_app (goodIn_of _ (by decide +kernel)) ggX6_readInto_X6_readJudges
set_option maxRecDepth 20000 in
theorem ggX6_readInto_X6_readCases : GoodIn wsX6_readInto wsX6_readCases := goodIn_r _ [49, 50, 51, 52, 53, 16, 54, 55, 56, 30, 57, 58, 35, 36, 37, 38, 1, 18, 19, 20, 21, 2, 22, 13, 14, 15, 17, 67, 68, 69, 70, 71, 72, 73, 74, 75, 76, 77, 78, 79, 80, 64, 65, 66] (by decide +kernel) (by decide +kernel)
set_option maxRecDepth 20000 in
theorem gX6_readInto_X6_readCases : GoodIn wsX6_readInto (wsV RX6 38 RX6 yX6_readCases wsX6_readCases) := goodIn_app (goodIn_of _ (by decide +kernel)) ggX6_readInto_X6_readCases
set_option maxRecDepth 20000 in
theorem ggX6_readInto_X6_readSits : GoodIn wsX6_readInto wsX6_readSits := goodIn_r _ [62, 45, 63, 35, 36, 37, 16, 38, 1, 18, 19, 20, 21, 2, 22, 67, 68, 69, 70, 71, 72, 73, 74, 75, 76, 77, 78, 79, 80, 64, 65, 66] (by decide +kernel) (by decide +kernel)
set_option maxRecDepth 20000 in
theorem gX6_readInto_X6_readSits : GoodIn wsX6_readInto (wsV RX6 41 RX6 yX6_readSits wsX6_readSits) := goodIn_app (goodIn_of _ (by decide +kernel)) ggX6_readInto_X6_readSits
theorem dX6_readInto_0 : decode cX6_readInto 0 = .ok (.aload_n 1, 1) := by decide +kernel
theorem dX6_readInto_1 : decode cX6_readInto 1 = .ok (.invokevirtual 22, 3) := by decide +kernel
theorem dX6_readInto_4 : decode cX6_readInto 4 = .ok (.aload_n 0, 1) := by decide +kernel
theorem dX6_readInto_5 : decode cX6_readInto 5 = .ok (.iconst 0, 1) := by decide +kernel
theorem dX6_readInto_6 : decode cX6_readInto 6 = .ok (.putfield 19, 3) := by decide +kernel
theorem dX6_readInto_9 : decode cX6_readInto 9 = .ok (.aload_n 0, 1) := by decide +kernel
theorem dX6_readInto_10 : decode cX6_readInto 10 = .ok (.bipush 99, 2) := by decide +kernel
theorem dX6_readInto_12 : decode cX6_readInto 12 = .ok (.invokevirtual 27, 3) := by decide +kernel
theorem dX6_readInto_15 : decode cX6_readInto 15 = .ok (.ifCond .eq 50, 3) := by decide +kernel
theorem dX6_readInto_18 : decode cX6_readInto 18 = .ok (.aload_n 0, 1) := by decide +kernel
theorem dX6_readInto_19 : decode cX6_readInto 19 = .ok (.aload_n 1, 1) := by decide +kernel
theorem dX6_readInto_20 : decode cX6_readInto 20 = .ok (.invokevirtual 31, 3) := by decide +kernel
theorem dX6_readInto_23 : decode cX6_readInto 23 = .ok (.ifCond .eq 42, 3) := by decide +kernel
theorem dX6_readInto_26 : decode cX6_readInto 26 = .ok (.aload_n 0, 1) := by decide +kernel
theorem dX6_readInto_27 : decode cX6_readInto 27 = .ok (.aload_n 1, 1) := by decide +kernel
theorem dX6_readInto_28 : decode cX6_readInto 28 = .ok (.invokevirtual 35, 3) := by decide +kernel
theorem dX6_readInto_31 : decode cX6_readInto 31 = .ok (.ifCond .eq 34, 3) := by decide +kernel
theorem dX6_readInto_34 : decode cX6_readInto 34 = .ok (.aload_n 0, 1) := by decide +kernel
theorem dX6_readInto_35 : decode cX6_readInto 35 = .ok (.aload_n 1, 1) := by decide +kernel
theorem dX6_readInto_36 : decode cX6_readInto 36 = .ok (.invokevirtual 38, 3) := by decide +kernel
theorem dX6_readInto_39 : decode cX6_readInto 39 = .ok (.ifCond .eq 26, 3) := by decide +kernel
theorem dX6_readInto_42 : decode cX6_readInto 42 = .ok (.aload_n 0, 1) := by decide +kernel
theorem dX6_readInto_43 : decode cX6_readInto 43 = .ok (.aload_n 1, 1) := by decide +kernel
theorem dX6_readInto_44 : decode cX6_readInto 44 = .ok (.invokevirtual 41, 3) := by decide +kernel
theorem dX6_readInto_47 : decode cX6_readInto 47 = .ok (.ifCond .eq 18, 3) := by decide +kernel
theorem dX6_readInto_50 : decode cX6_readInto 50 = .ok (.aload_n 0, 1) := by decide +kernel
theorem dX6_readInto_51 : decode cX6_readInto 51 = .ok (.getfield 19, 3) := by decide +kernel
theorem dX6_readInto_54 : decode cX6_readInto 54 = .ok (.aload_n 0, 1) := by decide +kernel
theorem dX6_readInto_55 : decode cX6_readInto 55 = .ok (.getfield 15, 3) := by decide +kernel
theorem dX6_readInto_58 : decode cX6_readInto 58 = .ok (.if_icmp .ne 7, 3) := by decide +kernel
theorem dX6_readInto_61 : decode cX6_readInto 61 = .ok (.iconst 1, 1) := by decide +kernel
theorem dX6_readInto_62 : decode cX6_readInto 62 = .ok (.goto 4, 3) := by decide +kernel
theorem dX6_readInto_65 : decode cX6_readInto 65 = .ok (.iconst 0, 1) := by decide +kernel
theorem dX6_readInto_66 : decode cX6_readInto 66 = .ok (.ireturn, 1) := by decide +kernel
set_option maxRecDepth 20000 in
theorem ggX6_readParties_X6_kindHere : GoodIn wsX6_readParties wsX6_kindHere := goodIn_r _ [10, 11, 12, 13, 9, 14, 2, 15, 16, 39, 40, 41] (by decide +kernel) (by decide +kernel)
set_option maxRecDepth 20000 in
theorem gX6_readParties_X6_kindHere : GoodIn wsX6_readParties (wsV RX6 47 RX6 yX6_kindHere wsX6_kindHere) := goodIn_app (goodIn_of _ (by decide +kernel)) ggX6_readParties_X6_kindHere
set_option maxRecDepth 20000 in
theorem ggX6_readParties_X6_figureBelow : GoodIn wsX6_readParties wsX6_figureBelow := goodIn_r _ [20, 2, 11, 12, 13, 9, 14, 15, 16, 39, 40, 41] (by decide +kernel) (by decide +kernel)
set_option maxRecDepth 20000 in
theorem gX6_readParties_X6_figureBelow : GoodIn wsX6_readParties (wsV RX6 54 RX6 yX6_figureBelow wsX6_figureBelow) := goodIn_app (goodIn_of _ (by decide +kernel)) ggX6_readParties_X6_figureBelow
set_option maxRecDepth 20000 in
theorem ggX6_readParties_X6_takes : GoodIn wsX6_readParties wsX6_takes := goodIn_r _ [24, 2, 11, 12, 13, 9, 14, 15, 16, 39, 40, 41] (by decide +kernel) (by decide +kernel)
set_option maxRecDepth 20000 in
theorem gX6_readParties_X6_takes : GoodIn wsX6_readParties (wsV RX6 27 RX6 yX6_takes wsX6_takes) := goodIn_app (goodIn_of _ (by decide +kernel)) ggX6_readParties_X6_takes
theorem dX6_readParties_0 : decode cX6_readParties 0 = .ok (.iconst 0, 1) := by decide +kernel
theorem dX6_readParties_1 : decode cX6_readParties 1 = .ok (.istore_n 2, 1) := by decide +kernel
theorem dX6_readParties_2 : decode cX6_readParties 2 = .ok (.iload_n 2, 1) := by decide +kernel
theorem dX6_readParties_3 : decode cX6_readParties 3 = .ok (.bipush 6, 2) := by decide +kernel
theorem dX6_readParties_5 : decode cX6_readParties 5 = .ok (.if_icmp .ge 116, 3) := by decide +kernel
theorem dX6_readParties_8 : decode cX6_readParties 8 = .ok (.aload_n 1, 1) := by decide +kernel
theorem dX6_readParties_9 : decode cX6_readParties 9 = .ok (.getfield 44, 3) := by decide +kernel
theorem dX6_readParties_12 : decode cX6_readParties 12 = .ok (.iload_n 2, 1) := by decide +kernel
theorem dX6_readParties_13 : decode cX6_readParties 13 = .ok (.aload_n 0, 1) := by decide +kernel
theorem dX6_readParties_14 : decode cX6_readParties 14 = .ok (.invokevirtual 47, 3) := by decide +kernel
theorem dX6_readParties_17 : decode cX6_readParties 17 = .ok (.iastore, 1) := by decide +kernel
theorem dX6_readParties_18 : decode cX6_readParties 18 = .ok (.aload_n 1, 1) := by decide +kernel
theorem dX6_readParties_19 : decode cX6_readParties 19 = .ok (.getfield 44, 3) := by decide +kernel
theorem dX6_readParties_22 : decode cX6_readParties 22 = .ok (.iload_n 2, 1) := by decide +kernel
theorem dX6_readParties_23 : decode cX6_readParties 23 = .ok (.iaload, 1) := by decide +kernel
theorem dX6_readParties_24 : decode cX6_readParties 24 = .ok (.ifCond .ne 5, 3) := by decide +kernel
theorem dX6_readParties_27 : decode cX6_readParties 27 = .ok (.iconst 0, 1) := by decide +kernel
theorem dX6_readParties_28 : decode cX6_readParties 28 = .ok (.ireturn, 1) := by decide +kernel
theorem dX6_readParties_29 : decode cX6_readParties 29 = .ok (.aload_n 0, 1) := by decide +kernel
theorem dX6_readParties_30 : decode cX6_readParties 30 = .ok (.dup, 1) := by decide +kernel
theorem dX6_readParties_31 : decode cX6_readParties 31 = .ok (.getfield 19, 3) := by decide +kernel
theorem dX6_readParties_34 : decode cX6_readParties 34 = .ok (.iconst 1, 1) := by decide +kernel
theorem dX6_readParties_35 : decode cX6_readParties 35 = .ok (.iadd, 1) := by decide +kernel
theorem dX6_readParties_36 : decode cX6_readParties 36 = .ok (.putfield 19, 3) := by decide +kernel
theorem dX6_readParties_39 : decode cX6_readParties 39 = .ok (.aload_n 1, 1) := by decide +kernel
theorem dX6_readParties_40 : decode cX6_readParties 40 = .ok (.getfield 51, 3) := by decide +kernel
theorem dX6_readParties_43 : decode cX6_readParties 43 = .ok (.iload_n 2, 1) := by decide +kernel
theorem dX6_readParties_44 : decode cX6_readParties 44 = .ok (.aload_n 0, 1) := by decide +kernel
theorem dX6_readParties_45 : decode cX6_readParties 45 = .ok (.bipush 10, 2) := by decide +kernel
theorem dX6_readParties_47 : decode cX6_readParties 47 = .ok (.invokevirtual 54, 3) := by decide +kernel
theorem dX6_readParties_50 : decode cX6_readParties 50 = .ok (.iastore, 1) := by decide +kernel
theorem dX6_readParties_51 : decode cX6_readParties 51 = .ok (.aload_n 1, 1) := by decide +kernel
theorem dX6_readParties_52 : decode cX6_readParties 52 = .ok (.getfield 51, 3) := by decide +kernel
theorem dX6_readParties_55 : decode cX6_readParties 55 = .ok (.iload_n 2, 1) := by decide +kernel
theorem dX6_readParties_56 : decode cX6_readParties 56 = .ok (.iaload, 1) := by decide +kernel
theorem dX6_readParties_57 : decode cX6_readParties 57 = .ok (.ifCond .ge 5, 3) := by decide +kernel
theorem dX6_readParties_60 : decode cX6_readParties 60 = .ok (.iconst 0, 1) := by decide +kernel
theorem dX6_readParties_61 : decode cX6_readParties 61 = .ok (.ireturn, 1) := by decide +kernel
theorem dX6_readParties_62 : decode cX6_readParties 62 = .ok (.aload_n 1, 1) := by decide +kernel
theorem dX6_readParties_63 : decode cX6_readParties 63 = .ok (.getfield 58, 3) := by decide +kernel
theorem dX6_readParties_66 : decode cX6_readParties 66 = .ok (.iload_n 2, 1) := by decide +kernel
theorem dX6_readParties_67 : decode cX6_readParties 67 = .ok (.iconst 0, 1) := by decide +kernel
theorem dX6_readParties_68 : decode cX6_readParties 68 = .ok (.iastore, 1) := by decide +kernel
theorem dX6_readParties_69 : decode cX6_readParties 69 = .ok (.aload_n 1, 1) := by decide +kernel
theorem dX6_readParties_70 : decode cX6_readParties 70 = .ok (.iload_n 2, 1) := by decide +kernel
theorem dX6_readParties_71 : decode cX6_readParties 71 = .ok (.iconst 1, 1) := by decide +kernel
theorem dX6_readParties_72 : decode cX6_readParties 72 = .ok (.iadd, 1) := by decide +kernel
theorem dX6_readParties_73 : decode cX6_readParties 73 = .ok (.putfield 61, 3) := by decide +kernel
theorem dX6_readParties_76 : decode cX6_readParties 76 = .ok (.aload_n 1, 1) := by decide +kernel
theorem dX6_readParties_77 : decode cX6_readParties 77 = .ok (.getfield 61, 3) := by decide +kernel
theorem dX6_readParties_80 : decode cX6_readParties 80 = .ok (.iconst 2, 1) := by decide +kernel
theorem dX6_readParties_81 : decode cX6_readParties 81 = .ok (.if_icmp .lt 14, 3) := by decide +kernel
theorem dX6_readParties_84 : decode cX6_readParties 84 = .ok (.aload_n 0, 1) := by decide +kernel
theorem dX6_readParties_85 : decode cX6_readParties 85 = .ok (.bipush 59, 2) := by decide +kernel
theorem dX6_readParties_87 : decode cX6_readParties 87 = .ok (.invokevirtual 27, 3) := by decide +kernel
theorem dX6_readParties_90 : decode cX6_readParties 90 = .ok (.ifCond .eq 5, 3) := by decide +kernel
theorem dX6_readParties_93 : decode cX6_readParties 93 = .ok (.iconst 1, 1) := by decide +kernel
theorem dX6_readParties_94 : decode cX6_readParties 94 = .ok (.ireturn, 1) := by decide +kernel
theorem dX6_readParties_95 : decode cX6_readParties 95 = .ok (.aload_n 1, 1) := by decide +kernel
theorem dX6_readParties_96 : decode cX6_readParties 96 = .ok (.getfield 61, 3) := by decide +kernel
theorem dX6_readParties_99 : decode cX6_readParties 99 = .ok (.bipush 6, 2) := by decide +kernel
theorem dX6_readParties_101 : decode cX6_readParties 101 = .ok (.if_icmp .ge 12, 3) := by decide +kernel
theorem dX6_readParties_104 : decode cX6_readParties 104 = .ok (.aload_n 0, 1) := by decide +kernel
theorem dX6_readParties_105 : decode cX6_readParties 105 = .ok (.bipush 44, 2) := by decide +kernel
theorem dX6_readParties_107 : decode cX6_readParties 107 = .ok (.invokevirtual 27, 3) := by decide +kernel
theorem dX6_readParties_110 : decode cX6_readParties 110 = .ok (.ifCond .ne 5, 3) := by decide +kernel
theorem dX6_readParties_113 : decode cX6_readParties 113 = .ok (.iconst 0, 1) := by decide +kernel
theorem dX6_readParties_114 : decode cX6_readParties 114 = .ok (.ireturn, 1) := by decide +kernel
theorem dX6_readParties_115 : decode cX6_readParties 115 = .ok (.iinc 2 1, 3) := by decide +kernel
theorem dX6_readParties_118 : decode cX6_readParties 118 = .ok (.goto (-116), 3) := by decide +kernel
theorem dX6_readParties_121 : decode cX6_readParties 121 = .ok (.iconst 0, 1) := by decide +kernel
theorem dX6_readParties_122 : decode cX6_readParties 122 = .ok (.ireturn, 1) := by decide +kernel
set_option maxRecDepth 20000 in
theorem ggX6_readJudges_X6_figureBelow : GoodIn wsX6_readJudges wsX6_figureBelow := goodIn_r _ [9, 10, 11, 12, 13, 8, 14, 15, 16, 35, 36, 37] (by decide +kernel) (by decide +kernel)
set_option maxRecDepth 20000 in
theorem gX6_readJudges_X6_figureBelow : GoodIn wsX6_readJudges (wsV RX6 54 RX6 yX6_figureBelow wsX6_figureBelow) := goodIn_app (goodIn_of _ (by decide +kernel)) ggX6_readJudges_X6_figureBelow
set_option maxRecDepth 20000 in
theorem ggX6_readJudges_X6_takes : GoodIn wsX6_readJudges wsX6_takes := goodIn_r _ [20, 10, 11, 12, 13, 8, 14, 15, 16, 35, 36, 37] (by decide +kernel) (by decide +kernel)
set_option maxRecDepth 20000 in
theorem gX6_readJudges_X6_takes : GoodIn wsX6_readJudges (wsV RX6 27 RX6 yX6_takes wsX6_takes) := goodIn_app (goodIn_of _ (by decide +kernel)) ggX6_readJudges_X6_takes
theorem dX6_readJudges_0 : decode cX6_readJudges 0 = .ok (.iconst 0, 1) := by decide +kernel
theorem dX6_readJudges_1 : decode cX6_readJudges 1 = .ok (.istore_n 2, 1) := by decide +kernel
theorem dX6_readJudges_2 : decode cX6_readJudges 2 = .ok (.iload_n 2, 1) := by decide +kernel
theorem dX6_readJudges_3 : decode cX6_readJudges 3 = .ok (.bipush 6, 2) := by decide +kernel
theorem dX6_readJudges_5 : decode cX6_readJudges 5 = .ok (.if_icmp .ge 110, 3) := by decide +kernel
theorem dX6_readJudges_8 : decode cX6_readJudges 8 = .ok (.aload_n 1, 1) := by decide +kernel
theorem dX6_readJudges_9 : decode cX6_readJudges 9 = .ok (.getfield 64, 3) := by decide +kernel
theorem dX6_readJudges_12 : decode cX6_readJudges 12 = .ok (.iload_n 2, 1) := by decide +kernel
theorem dX6_readJudges_13 : decode cX6_readJudges 13 = .ok (.aload_n 0, 1) := by decide +kernel
theorem dX6_readJudges_14 : decode cX6_readJudges 14 = .ok (.bipush 10, 2) := by decide +kernel
theorem dX6_readJudges_16 : decode cX6_readJudges 16 = .ok (.invokevirtual 54, 3) := by decide +kernel
theorem dX6_readJudges_19 : decode cX6_readJudges 19 = .ok (.iastore, 1) := by decide +kernel
theorem dX6_readJudges_20 : decode cX6_readJudges 20 = .ok (.aload_n 1, 1) := by decide +kernel
theorem dX6_readJudges_21 : decode cX6_readJudges 21 = .ok (.getfield 64, 3) := by decide +kernel
theorem dX6_readJudges_24 : decode cX6_readJudges 24 = .ok (.iload_n 2, 1) := by decide +kernel
theorem dX6_readJudges_25 : decode cX6_readJudges 25 = .ok (.iaload, 1) := by decide +kernel
theorem dX6_readJudges_26 : decode cX6_readJudges 26 = .ok (.ifCond .ge 5, 3) := by decide +kernel
theorem dX6_readJudges_29 : decode cX6_readJudges 29 = .ok (.iconst 0, 1) := by decide +kernel
theorem dX6_readJudges_30 : decode cX6_readJudges 30 = .ok (.ireturn, 1) := by decide +kernel
theorem dX6_readJudges_31 : decode cX6_readJudges 31 = .ok (.aload_n 1, 1) := by decide +kernel
theorem dX6_readJudges_32 : decode cX6_readJudges 32 = .ok (.getfield 67, 3) := by decide +kernel
theorem dX6_readJudges_35 : decode cX6_readJudges 35 = .ok (.iload_n 2, 1) := by decide +kernel
theorem dX6_readJudges_36 : decode cX6_readJudges 36 = .ok (.aload_n 0, 1) := by decide +kernel
theorem dX6_readJudges_37 : decode cX6_readJudges 37 = .ok (.bipush 45, 2) := by decide +kernel
theorem dX6_readJudges_39 : decode cX6_readJudges 39 = .ok (.invokevirtual 27, 3) := by decide +kernel
theorem dX6_readJudges_42 : decode cX6_readJudges 42 = .ok (.ifCond .eq 8, 3) := by decide +kernel
theorem dX6_readJudges_45 : decode cX6_readJudges 45 = .ok (.bipush (-4), 2) := by decide +kernel
theorem dX6_readJudges_47 : decode cX6_readJudges 47 = .ok (.goto 11, 3) := by decide +kernel
theorem dX6_readJudges_50 : decode cX6_readJudges 50 = .ok (.aload_n 0, 1) := by decide +kernel
theorem dX6_readJudges_51 : decode cX6_readJudges 51 = .ok (.aload_n 1, 1) := by decide +kernel
theorem dX6_readJudges_52 : decode cX6_readJudges 52 = .ok (.getfield 61, 3) := by decide +kernel
theorem dX6_readJudges_55 : decode cX6_readJudges 55 = .ok (.invokevirtual 54, 3) := by decide +kernel
theorem dX6_readJudges_58 : decode cX6_readJudges 58 = .ok (.iastore, 1) := by decide +kernel
theorem dX6_readJudges_59 : decode cX6_readJudges 59 = .ok (.aload_n 1, 1) := by decide +kernel
theorem dX6_readJudges_60 : decode cX6_readJudges 60 = .ok (.getfield 67, 3) := by decide +kernel
theorem dX6_readJudges_63 : decode cX6_readJudges 63 = .ok (.iload_n 2, 1) := by decide +kernel
theorem dX6_readJudges_64 : decode cX6_readJudges 64 = .ok (.iaload, 1) := by decide +kernel
theorem dX6_readJudges_65 : decode cX6_readJudges 65 = .ok (.iconst (-1), 1) := by decide +kernel
theorem dX6_readJudges_66 : decode cX6_readJudges 66 = .ok (.if_icmp .ne 5, 3) := by decide +kernel
theorem dX6_readJudges_69 : decode cX6_readJudges 69 = .ok (.iconst 0, 1) := by decide +kernel
theorem dX6_readJudges_70 : decode cX6_readJudges 70 = .ok (.ireturn, 1) := by decide +kernel
theorem dX6_readJudges_71 : decode cX6_readJudges 71 = .ok (.aload_n 1, 1) := by decide +kernel
theorem dX6_readJudges_72 : decode cX6_readJudges 72 = .ok (.iload_n 2, 1) := by decide +kernel
theorem dX6_readJudges_73 : decode cX6_readJudges 73 = .ok (.iconst 1, 1) := by decide +kernel
theorem dX6_readJudges_74 : decode cX6_readJudges 74 = .ok (.iadd, 1) := by decide +kernel
theorem dX6_readJudges_75 : decode cX6_readJudges 75 = .ok (.putfield 70, 3) := by decide +kernel
theorem dX6_readJudges_78 : decode cX6_readJudges 78 = .ok (.aload_n 0, 1) := by decide +kernel
theorem dX6_readJudges_79 : decode cX6_readJudges 79 = .ok (.bipush 59, 2) := by decide +kernel
